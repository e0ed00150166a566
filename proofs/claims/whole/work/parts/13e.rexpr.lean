/-! ===== THE REFERENCE READS: conditions within one another ===== -/
theorem z_d1 {d k : Nat} (h : k + 1 ≤ d) : ∃ d', d = d' + 1 ∧ k ≤ d' := ⟨d - 1, by omega, by omega⟩
theorem z_dk {d k : Nat} (h : k ≤ d) : ∃ d', d = d' + k := ⟨d - k, by omega⟩
theorem z_and_01 (a b : Int32) : z_01b (z_and a b) := by unfold z_and z_01b; by_cases h1 : a = 0 <;> by_cases h2 : b = 0 <;> simp [h1, h2]
theorem z_or_01 (a b : Int32) : z_01b (z_or a b) := by unfold z_or z_01b; by_cases h1 : a = 0 <;> by_cases h2 : b = 0 <;> simp [h1, h2]
theorem z_not_01 (a : Int32) : z_01b (z_not a) := by unfold z_not z_01b; by_cases h1 : a = 0 <;> simp [h1]
theorem z_and_as (a b c : Int32) : z_and (z_and a b) c = z_and a (z_and b c) := by
  unfold z_and; by_cases h1 : a = 0 <;> by_cases h2 : b = 0 <;> by_cases h3 : c = 0 <;> simp [h1, h2, h3]
theorem z_or_as (a b c : Int32) : z_or (z_or a b) c = z_or a (z_or b c) := by
  unfold z_or; by_cases h1 : a = 0 <;> by_cases h2 : b = 0 <;> by_cases h3 : c = 0 <;> simp [h1, h2, h3]
theorem z_and_1 {a : Int32} (h : z_01b a) : z_and a 1 = a := by
  rcases h with h | h <;> subst h <;> decide
theorem z_or_0 {a : Int32} (h : z_01b a) : z_or a 0 = a := by
  rcases h with h | h <;> subst h <;> decide
theorem l_ev13 (X : Sx) (d : Nat) (v w : Int32) (o : Option Value) (I : Ii) (T : Tt) : c_X12_every_139_13 X d v o w I T = c_X12_every_139_3 X d (z_and v w) (some (.int w)) I T := by
  unfold z_and
  rw [e_X12_every_139_13]
  by_cases h1 : v = 0 <;> by_cases h2 : w = 0 <;> simp (disch := omega) only [e_X12_every_139, e_X12_every_139_2, k_X12_every_139_2, e_X12_every_139_10, k_X12_every_139_10, e_X12_every_139_13, k_X12_every_139_13, e_X12_every_139_20, e_X12_every_139_21, e_X12_every_139_23, h1, h2, q_bd_l, z_ltT, z_ltF, z_eqT, z_eqF, z_ltlT, z_ltlF, z_lltT, z_lltF, z_eqlT, z_eqlF, z_in, z_k7, z_cl, z_lneg, z_llT, z_llF, z_s1, z_nI_cl, z_nlt0, z_ne_m1, z_b0, z_b1, z_la, z_al, z_lm, z_ml, z_nm, nI_add, pk_mul, ↓reduceIte, not_true_eq_false, not_false_eq_true, true_or, or_true, false_or, or_false, true_and, and_true, and_false, false_and, Classical.not_not, Nat.add_zero, z_01, z_em, z_bit_p, Nat.not_le, Nat.not_lt, reduceCtorEq, if_true, if_false]
theorem l_so13 (X : Sx) (d : Nat) (v w : Int32) (o : Option Value) (I : Ii) (T : Tt) : c_X12_some_139_13 X d v o w I T = c_X12_some_139_3 X d (z_or v w) (some (.int w)) I T := by
  unfold z_or
  rw [e_X12_some_139_13]
  by_cases h1 : v = 0 <;> by_cases h2 : w = 0 <;> simp (disch := omega) only [e_X12_some_139, e_X12_some_139_2, k_X12_some_139_2, e_X12_some_139_10, k_X12_some_139_10, e_X12_some_139_13, k_X12_some_139_13, e_X12_some_139_18, e_X12_some_139_21, e_X12_some_139_23, h1, h2, q_bd_l, z_ltT, z_ltF, z_eqT, z_eqF, z_ltlT, z_ltlF, z_lltT, z_lltF, z_eqlT, z_eqlF, z_in, z_k7, z_cl, z_lneg, z_llT, z_llF, z_s1, z_nI_cl, z_nlt0, z_ne_m1, z_b0, z_b1, z_la, z_al, z_lm, z_ml, z_nm, nI_add, pk_mul, ↓reduceIte, not_true_eq_false, not_false_eq_true, true_or, or_true, false_or, or_false, true_and, and_true, and_false, false_and, Classical.not_not, Nat.add_zero, z_01, z_em, z_bit_p, Nat.not_le, Nat.not_lt, reduceCtorEq, if_true, if_false]
theorem l_ev3e (X : Sx) (d : Nat) (v : Int32) (hv : z_01b v) (o : Option Value) (J : Ii) (T : Tt) (e : Nat) (he : e ≤ 400) (hJ : J 139 13 = nI e) : c_X12_every_139_3 X d v o J T = z_r v J T := by
  have hv' : (v = 0 ∨ v = 1) = True := eq_true hv
  rw [e_X12_every_139_3]
  simp (disch := omega) only [e_X12_every_139, e_X12_every_139_2, k_X12_every_139_2, e_X12_every_139_10, k_X12_every_139_10, e_X12_every_139_13, k_X12_every_139_13, e_X12_every_139_20, e_X12_every_139_21, e_X12_every_139_23, hJ, hv', q_bd_l, z_ltT, z_ltF, z_eqT, z_eqF, z_ltlT, z_ltlF, z_lltT, z_lltF, z_eqlT, z_eqlF, z_in, z_k7, z_cl, z_lneg, z_llT, z_llF, z_s1, z_nI_cl, z_nlt0, z_ne_m1, z_b0, z_b1, z_la, z_al, z_lm, z_ml, z_nm, nI_add, pk_mul, ↓reduceIte, not_true_eq_false, not_false_eq_true, true_or, or_true, false_or, or_false, true_and, and_true, and_false, false_and, Classical.not_not, Nat.add_zero, z_01, z_em, z_bit_p, Nat.not_le, Nat.not_lt, reduceCtorEq, if_true, if_false]
theorem l_so3e (X : Sx) (d : Nat) (v : Int32) (hv : z_01b v) (o : Option Value) (J : Ii) (T : Tt) (e : Nat) (he : e ≤ 400) (hJ : J 139 13 = nI e) : c_X12_some_139_3 X d v o J T = z_r v J T := by
  have hv' : (v = 0 ∨ v = 1) = True := eq_true hv
  rw [e_X12_some_139_3]
  simp (disch := omega) only [e_X12_some_139, e_X12_some_139_2, k_X12_some_139_2, e_X12_some_139_10, k_X12_some_139_10, e_X12_some_139_13, k_X12_some_139_13, e_X12_some_139_18, e_X12_some_139_21, e_X12_some_139_23, hJ, hv', q_bd_l, z_ltT, z_ltF, z_eqT, z_eqF, z_ltlT, z_ltlF, z_lltT, z_lltF, z_eqlT, z_eqlF, z_in, z_k7, z_cl, z_lneg, z_llT, z_llF, z_s1, z_nI_cl, z_nlt0, z_ne_m1, z_b0, z_b1, z_la, z_al, z_lm, z_ml, z_nm, nI_add, pk_mul, ↓reduceIte, not_true_eq_false, not_false_eq_true, true_or, or_true, false_or, or_false, true_and, and_true, and_false, false_and, Classical.not_not, Nat.add_zero, z_01, z_em, z_bit_p, Nat.not_le, Nat.not_lt, reduceCtorEq, if_true, if_false]
theorem z_fc_w (I : Ii) (v : Int32) : z_fc (q_w I 139 14 v) = z_fc I := by
  unfold z_fc
  rw [z_w_a _ _ _ _ 145 (by decide), z_w_k _ _ _ _ 16 (by decide), z_w_k _ _ _ _ 17 (by decide)]
theorem z_deep (I : Ii) (q dp : Nat) (h : I 139 14 = nI dp) : q_w (z_A (q_w I 139 14 (nI (dp + 1))) q) 139 14 (nI dp) = z_A I q := by
  rw [z_A_sw _ _ _ _ (by decide), z_w_w, z_w_id h]
def l_hy (I : Ii) (B : Nat → Nat) (n dp : Nat) : Prop := z_tx I B n ∧ I 139 13 = -1 ∧ I 139 12 = nI 3 ∧ z_01b (I 139 17) ∧ I 139 14 = nI dp
theorem l_hy_d {I : Ii} {B : Nat → Nat} {n dp : Nat} (h : l_hy I B n dp) (dp' : Nat) : l_hy (q_w I 139 14 (nI dp')) B n dp' := by
  obtain ⟨h1, h2, h3, h4, h5⟩ := h
  refine ⟨z_tx_w h1 14 _ (by decide) (by decide), ?_, ?_, ?_, z_w_s _ _ _ _⟩
  · rw [z_w_k _ _ _ _ 13 (by decide)]; exact h2
  · rw [z_w_k _ _ _ _ 12 (by decide)]; exact h3
  · rw [z_w_k _ _ _ _ 17 (by decide)]; exact h4
theorem z_fr_d {I J : Ii} (v : Int32) (h : z_fr m_p (q_w I 139 14 v) J) : z_fr m_p I J := z_fr_t (z_fr_w (z_fr_r _ _) 139 14 v rfl) h
theorem l_expr (X : Sx) (T : Tt) {B : Nat → Nat} {n : Nat} : ∀ (f dp p d : Nat) (I : Ii), dp ≤ 6 → p ≤ n → l_hy I B n dp →
    (9 + 3 * (6 - dp) ≤ d → z_po B n I T (6 - dp) z_01b (P_e B n f 0 dp (t_sk B n p)) (c_X12_atom_139 X d (z_A I p) T)) ∧
    (10 + 3 * (6 - dp) ≤ d → z_po B n I T (6 - dp) z_01b (P_e B n f 1 dp (t_sk B n p)) (c_X12_every_139 X d (z_A I p) T)) ∧
    (11 + 3 * (6 - dp) ≤ d → z_po B n I T (6 - dp) z_01b (P_e B n f 2 dp (t_sk B n p)) (c_X12_some_139 X d (z_A I p) T)) ∧
    (9 + 3 * (6 - dp) ≤ d → ∀ v o, z_01b v → z_pg B n I T (6 - dp) z_01b (z_and v) (P_e B n f 3 dp (t_sk B n p)) (c_X12_every_139_3 X d v o (z_A I p) T)) ∧
    (10 + 3 * (6 - dp) ≤ d → ∀ v o, z_01b v → z_pg B n I T (6 - dp) z_01b (z_or v) (P_e B n f 4 dp (t_sk B n p)) (c_X12_some_139_3 X d v o (z_A I p) T)) := by
  intro f
  induction f with
  | zero => intro dp p d I _ _ _; exact ⟨fun _ => z_po_no, fun _ => z_po_no, fun _ => z_po_no, fun _ _ _ _ => z_pg_no, fun _ _ _ _ => z_pg_no⟩
  | succ f ih =>
    intro dp p d I hdp hp H
    obtain ⟨h, hf, hD, ho, hdeep⟩ := id H
    have hs := t_sk_le (B := B) hp
    have hss := t_sk_sk B n p
    have h1 := h.1
    refine ⟨?_, ?_, ?_, ?_, ?_⟩
    · intro hd
      obtain ⟨d3, rfl⟩ : ∃ d3, d = d3 + 8 + 1 := ⟨d - 9, by omega⟩
      have pl0 := l_place X (d3 + 5) I T h p hp
      have pl := l_plain X (d3 + 1) I T h hf hD ho f (t_sk B n p) hs
      rw [hss] at pl
      have W := l_word X (d3 + 5) 64 (by decide) I T h (t_sk B n p) hs
      have S := l_isSign X (d3 + 5) I T h (t_sk B n p) hs 40 (by decide)
      rw [hss] at W S
      have wr := fun q => l_wrong X (d3 + 7) (nI (t_sk B n p)) (z_A I q) T (by rw [z_A_k _ _ _ (by decide)]; exact hf)
      rw [e_X12_atom_139]
      unfold P_e
      generalize es : t_sk B n p = s at *
      by_cases hw : t_isW (t_w 64) B n s = true
      · rw [if_pos hw]
        have hW := t_end_W (w := t_w 64) (by decide) hw
        by_cases h6 : dp = 6
        · rw [if_pos h6]
          refine z_po_er 0 (q_w (z_A I (s + (t_w 64).length)) 139 13 (nI s)) ?_ (.inl rfl) (z_w_s _ _ _ _) ⟨hs, z_aw_A I _ _ (by omega) _⟩ (z_fr_w (z_A_fr I _) 139 13 _ rfl)
          simp (disch := omega) only [e_X12_atom_139_8, k_X12_atom_139_8, e_X12_atom_139_12, k_X12_atom_139_12, e_X12_atom_139_18, k_X12_atom_139_18, e_X12_atom_139_21, k_X12_atom_139_21, e_X12_atom_139_22, e_X12_atom_139_29, k_X12_atom_139_29, e_X12_atom_139_43, k_X12_atom_139_43, e_X12_atom_139_47, e_X12_atom_139_57, k_X12_atom_139_57, e_X12_atom_139_65, k_X12_atom_139_65, e_X12_atom_139_70, k_X12_atom_139_70, e_X12_atom_139_76, z_A_11, z_A_k, hf, pl0, W, hw, hdeep, wr, q_bd_l, z_ltT, z_ltF, z_eqT, z_eqF, z_ltlT, z_ltlF, z_lltT, z_lltF, z_eqlT, z_eqlF, z_in, z_k7, z_cl, z_lneg, z_llT, z_llF, z_s1, z_nI_cl, z_nlt0, z_ne_m1, z_b0, z_b1, z_la, z_al, z_lm, z_ml, z_nm, nI_add, pk_mul, ↓reduceIte, not_true_eq_false, not_false_eq_true, true_or, or_true, false_or, or_false, true_and, and_true, and_false, false_and, Classical.not_not, Nat.add_zero, z_01, z_em, z_bit_p, Nat.not_le, Nat.not_lt, reduceCtorEq, if_true, if_false]
        · rw [if_neg h6]
          have a0 := (ih (dp + 1) (s + (t_w 64).length) (d3 + 8) (q_w I 139 14 (nI (dp + 1))) (by omega) hW.2 (l_hy_d H _)).1 (by omega)
          rw [hW.1] at a0
          cases hr : P_e B n f 0 (dp + 1) (t_nx B n s) with
          | none => rw [p_bd_n]; exact z_po_no
          | some r =>
            rw [hr] at a0
            cases r with
            | error e =>
              rw [p_bd_e]
              obtain ⟨v2, J, x1, xv, x2, x3, x4⟩ := a0.2 e rfl
              have x31 := x3.1
              refine z_po_er (z_not v2) (q_w J 139 14 (J 139 14 - 1)) ?_ (z_not_01 _) (by rw [z_w_k _ _ _ _ 13 (by decide)]; exact x2) ⟨x31, by obtain ⟨w, a1, a2⟩ := x3.2; exact ⟨w, by rw [z_w_k _ _ _ _ 11 (by decide)]; exact a1, by omega⟩⟩ (z_fr_w (z_fr_d _ x4) 139 14 _ rfl)
              unfold z_not
              by_cases hl : v2 = 0 <;> simp (disch := omega) only [e_X12_atom_139_8, k_X12_atom_139_8, e_X12_atom_139_12, k_X12_atom_139_12, e_X12_atom_139_18, k_X12_atom_139_18, e_X12_atom_139_21, k_X12_atom_139_21, e_X12_atom_139_22, e_X12_atom_139_29, k_X12_atom_139_29, e_X12_atom_139_43, k_X12_atom_139_43, e_X12_atom_139_47, e_X12_atom_139_57, k_X12_atom_139_57, e_X12_atom_139_65, k_X12_atom_139_65, e_X12_atom_139_70, k_X12_atom_139_70, e_X12_atom_139_76, z_A_11, z_A_k, hf, pl0, W, hw, hdeep, z_A_sw, x1, hl, q_bd_l, z_ltT, z_ltF, z_eqT, z_eqF, z_ltlT, z_ltlF, z_lltT, z_lltF, z_eqlT, z_eqlF, z_in, z_k7, z_cl, z_lneg, z_llT, z_llF, z_s1, z_nI_cl, z_nlt0, z_ne_m1, z_b0, z_b1, z_la, z_al, z_lm, z_ml, z_nm, nI_add, pk_mul, ↓reduceIte, not_true_eq_false, not_false_eq_true, true_or, or_true, false_or, or_false, true_and, and_true, and_false, false_and, Classical.not_not, Nat.add_zero, z_01, z_em, z_bit_p, Nat.not_le, Nat.not_lt, reduceCtorEq, if_true, if_false]
            | ok a =>
              rw [p_bd_o]
              obtain ⟨q1, y1, y2, y3⟩ := a0.1 a rfl
              rw [z_fc_w] at y3
              refine z_po_ok q1 y1 y2 ?_
              have dd := z_deep I q1 dp hdeep
              have dk : z_A (q_w I 139 14 (nI (dp + 1))) q1 139 14 = nI (dp + 1) := by rw [z_A_k _ _ _ (by decide), z_w_s]
              unfold z_not
              by_cases hl : a.2.2 (z_fc I) = 0 <;> simp (disch := omega) only [e_X12_atom_139_8, k_X12_atom_139_8, e_X12_atom_139_12, k_X12_atom_139_12, e_X12_atom_139_18, k_X12_atom_139_18, e_X12_atom_139_21, k_X12_atom_139_21, e_X12_atom_139_22, e_X12_atom_139_29, k_X12_atom_139_29, e_X12_atom_139_43, k_X12_atom_139_43, e_X12_atom_139_47, e_X12_atom_139_57, k_X12_atom_139_57, e_X12_atom_139_65, k_X12_atom_139_65, e_X12_atom_139_70, k_X12_atom_139_70, e_X12_atom_139_76, z_A_11, z_A_k, hf, pl0, W, hw, hdeep, z_A_sw, y3, hl, dk, Nat.add_sub_cancel, dd, q_bd_l, z_ltT, z_ltF, z_eqT, z_eqF, z_ltlT, z_ltlF, z_lltT, z_lltF, z_eqlT, z_eqlF, z_in, z_k7, z_cl, z_lneg, z_llT, z_llF, z_s1, z_nI_cl, z_nlt0, z_ne_m1, z_b0, z_b1, z_la, z_al, z_lm, z_ml, z_nm, nI_add, pk_mul, ↓reduceIte, not_true_eq_false, not_false_eq_true, true_or, or_true, false_or, or_false, true_and, and_true, and_false, false_and, Classical.not_not, Nat.add_zero, z_01, z_em, z_bit_p, Nat.not_le, Nat.not_lt, reduceCtorEq, if_true, if_false]
      · rw [if_neg hw]
        by_cases hS : t_isS 40 B n s = true
        · rw [if_pos hS]
          have hn := t_isS_nx hS
          have e1 : t_sk B n (s + 1) = t_nx B n s := by rw [← t_end_S hS rfl rfl]; rfl
          by_cases h6 : dp = 6
          · rw [if_pos h6]
            refine z_po_er 0 (q_w (z_A I s) 139 13 (nI s)) ?_ (.inl rfl) (z_w_s _ _ _ _) ⟨hs, z_aw_A I _ _ (by omega) _⟩ (z_fr_w (z_A_fr I _) 139 13 _ rfl)
            simp (disch := omega) only [e_X12_atom_139_8, k_X12_atom_139_8, e_X12_atom_139_12, k_X12_atom_139_12, e_X12_atom_139_18, k_X12_atom_139_18, e_X12_atom_139_21, k_X12_atom_139_21, e_X12_atom_139_22, e_X12_atom_139_29, k_X12_atom_139_29, e_X12_atom_139_43, k_X12_atom_139_43, e_X12_atom_139_47, e_X12_atom_139_57, k_X12_atom_139_57, e_X12_atom_139_65, k_X12_atom_139_65, e_X12_atom_139_70, k_X12_atom_139_70, e_X12_atom_139_76, z_A_11, z_A_k, hf, pl0, W, hw, S, hS, hdeep, wr, q_bd_l, z_ltT, z_ltF, z_eqT, z_eqF, z_ltlT, z_ltlF, z_lltT, z_lltF, z_eqlT, z_eqlF, z_in, z_k7, z_cl, z_lneg, z_llT, z_llF, z_s1, z_nI_cl, z_nlt0, z_ne_m1, z_b0, z_b1, z_la, z_al, z_lm, z_ml, z_nm, nI_add, pk_mul, ↓reduceIte, not_true_eq_false, not_false_eq_true, true_or, or_true, false_or, or_false, true_and, and_true, and_false, false_and, Classical.not_not, Nat.add_zero, z_01, z_em, z_bit_p, Nat.not_le, Nat.not_lt, reduceCtorEq, if_true, if_false]
          · rw [if_neg h6]
            have a0 := (ih (dp + 1) (s + 1) (d3 + 8) (q_w I 139 14 (nI (dp + 1))) (by omega) (by omega) (l_hy_d H _)).2.2.1 (by omega)
            rw [e1] at a0
            cases hr : P_e B n f 2 (dp + 1) (t_nx B n s) with
            | none => rw [p_bd_n]; exact z_po_no
            | some r =>
              rw [hr] at a0
              cases r with
              | error e =>
                rw [p_bd_e]
                obtain ⟨v2, J, x1, xv, x2, x3, x4⟩ := a0.2 e rfl
                have x31 := x3.1
                have xv' : (v2 = 0 ∨ v2 = 1) = True := eq_true xv
                refine z_po_er v2 (q_w (q_w J 139 11 (J 139 11 + 1)) 139 14 ((q_w J 139 11 (J 139 11 + 1)) 139 14 - 1)) ?_ xv (by rw [z_w_k _ _ _ _ 13 (by decide), z_w_k _ _ _ _ 13 (by decide)]; exact x2) ⟨x31, by obtain ⟨w, a1, a2⟩ := x3.2; exact ⟨w + 1, by rw [z_w_k _ _ _ _ 11 (by decide), z_w_s, a1]; exact z_s1 w, by omega⟩⟩ (z_fr_w (z_fr_w (z_fr_d _ x4) 139 11 _ rfl) 139 14 _ rfl)
                simp (disch := omega) only [e_X12_atom_139_8, k_X12_atom_139_8, e_X12_atom_139_12, k_X12_atom_139_12, e_X12_atom_139_18, k_X12_atom_139_18, e_X12_atom_139_21, k_X12_atom_139_21, e_X12_atom_139_22, e_X12_atom_139_29, k_X12_atom_139_29, e_X12_atom_139_43, k_X12_atom_139_43, e_X12_atom_139_47, e_X12_atom_139_57, k_X12_atom_139_57, e_X12_atom_139_65, k_X12_atom_139_65, e_X12_atom_139_70, k_X12_atom_139_70, e_X12_atom_139_76, z_A_11, z_A_k, hf, pl0, W, hw, S, hS, hdeep, z_A_sw, z_A_w, x1, x2, xv', q_bd_l, z_ltT, z_ltF, z_eqT, z_eqF, z_ltlT, z_ltlF, z_lltT, z_lltF, z_eqlT, z_eqlF, z_in, z_k7, z_cl, z_lneg, z_llT, z_llF, z_s1, z_nI_cl, z_nlt0, z_ne_m1, z_b0, z_b1, z_la, z_al, z_lm, z_ml, z_nm, nI_add, pk_mul, ↓reduceIte, not_true_eq_false, not_false_eq_true, true_or, or_true, false_or, or_false, true_and, and_true, and_false, false_and, Classical.not_not, Nat.add_zero, z_01, z_em, z_bit_p, Nat.not_le, Nat.not_lt, reduceCtorEq, if_true, if_false]
              | ok a =>
                rw [p_bd_o]
                obtain ⟨q1, y1, y2, y3⟩ := a0.1 a rfl
                rw [z_fc_w] at y3
                have hI' := l_hy_d H (dp + 1)
                have S2 := l_isSign X (d3 + 5) (q_w I 139 14 (nI (dp + 1))) T hI'.1 q1 y1 41 (by decide)
                have hal : a.1 ≤ n := by rw [← y2]; exact t_sk_le y1
                rw [y2] at S2
                by_cases hS2 : t_isS 41 B n a.1 = true
                · rw [if_pos hS2]
                  have hn2 := t_isS_nx hS2
                  have e2 : t_sk B n (a.1 + 1) = t_nx B n a.1 := by rw [← t_end_S hS2 rfl rfl]; rfl
                  refine z_po_ok (a.1 + 1) (by omega) e2 ?_
                  have dd := z_deep I (a.1 + 1) dp hdeep
                  have dk : z_A (q_w I 139 14 (nI (dp + 1))) (a.1 + 1) 139 14 = nI (dp + 1) := by rw [z_A_k _ _ _ (by decide), z_w_s]
                  have av : (a.2.2 (z_fc I) = 0 ∨ a.2.2 (z_fc I) = 1) = True := by
                    obtain ⟨c, c1, c2, -⟩ := ((P_e_w B n f (dp + 1) _ a (by omega)).2.2.1 hr).2.2.2.2 (z_fc I) ho
                    rw [c2]
                    rcases (by omega : c = 0 ∨ c = 1) with rfl | rfl <;> decide
                  have f13 : q_w I 139 14 (nI (dp + 1)) 139 13 = -1 := by rw [z_w_k _ _ _ _ 13 (by decide)]; exact hf
                  simp (disch := omega) only [e_X12_atom_139_8, k_X12_atom_139_8, e_X12_atom_139_12, k_X12_atom_139_12, e_X12_atom_139_18, k_X12_atom_139_18, e_X12_atom_139_21, k_X12_atom_139_21, e_X12_atom_139_22, e_X12_atom_139_29, k_X12_atom_139_29, e_X12_atom_139_43, k_X12_atom_139_43, e_X12_atom_139_47, e_X12_atom_139_57, k_X12_atom_139_57, e_X12_atom_139_65, k_X12_atom_139_65, e_X12_atom_139_70, k_X12_atom_139_70, e_X12_atom_139_76, z_A_11, z_A_k, hf, f13, pl0, W, hw, S, hS, hdeep, z_A_sw, z_A_w, y3, S2, hS2, dk, Nat.add_sub_cancel, dd, av, q_bd_l, z_ltT, z_ltF, z_eqT, z_eqF, z_ltlT, z_ltlF, z_lltT, z_lltF, z_eqlT, z_eqlF, z_in, z_k7, z_cl, z_lneg, z_llT, z_llF, z_s1, z_nI_cl, z_nlt0, z_ne_m1, z_b0, z_b1, z_la, z_al, z_lm, z_ml, z_nm, nI_add, pk_mul, ↓reduceIte, not_true_eq_false, not_false_eq_true, true_or, or_true, false_or, or_false, true_and, and_true, and_false, false_and, Classical.not_not, Nat.add_zero, z_01, z_em, z_bit_p, Nat.not_le, Nat.not_lt, reduceCtorEq, if_true, if_false]
                · rw [if_neg hS2]
                  have f13 : q_w I 139 14 (nI (dp + 1)) 139 13 = -1 := by rw [z_w_k _ _ _ _ 13 (by decide)]; exact hf
                  have av : (a.2.2 (z_fc I) = 0 ∨ a.2.2 (z_fc I) = 1) = True := by
                    obtain ⟨c, c1, c2, -⟩ := ((P_e_w B n f (dp + 1) _ a (by omega)).2.2.1 hr).2.2.2.2 (z_fc I) ho
                    rw [c2]
                    rcases (by omega : c = 0 ∨ c = 1) with rfl | rfl <;> decide
                  have wr2 := l_wrong X (d3 + 7) (nI a.1) (z_A (q_w I 139 14 (nI (dp + 1))) a.1) T (by rw [z_A_k _ _ _ (by decide)]; exact f13)
                  have av2 : z_01b (a.2.2 (z_fc I)) := of_eq_true av
                  have k14 : q_w (z_A (q_w I 139 14 (nI (dp + 1))) a.1) 139 13 (nI a.1) 139 11 = nI a.1 := by rw [z_w_k _ _ _ _ 11 (by decide), z_A_11]
                  refine z_po_er (a.2.2 (z_fc I)) (q_w (q_w (q_w (z_A (q_w I 139 14 (nI (dp + 1))) a.1) 139 13 (nI a.1)) 139 11 (nI (a.1 + 1))) 139 14 ((q_w (q_w (z_A (q_w I 139 14 (nI (dp + 1))) a.1) 139 13 (nI a.1)) 139 11 (nI (a.1 + 1))) 139 14 - 1)) ?_ av2 (by rw [z_w_k _ _ _ _ 13 (by decide), z_w_k _ _ _ _ 13 (by decide), z_w_s]) ⟨hal, ⟨a.1 + 1, by rw [z_w_k _ _ _ _ 11 (by decide), z_w_s], by omega⟩⟩ (z_fr_w (z_fr_w (z_fr_w (z_fr_d _ (z_A_fr _ _)) 139 13 _ rfl) 139 11 _ rfl) 139 14 _ rfl)
                  simp (disch := omega) only [e_X12_atom_139_8, k_X12_atom_139_8, e_X12_atom_139_12, k_X12_atom_139_12, e_X12_atom_139_18, k_X12_atom_139_18, e_X12_atom_139_21, k_X12_atom_139_21, e_X12_atom_139_22, e_X12_atom_139_29, k_X12_atom_139_29, e_X12_atom_139_43, k_X12_atom_139_43, e_X12_atom_139_47, e_X12_atom_139_57, k_X12_atom_139_57, e_X12_atom_139_65, k_X12_atom_139_65, e_X12_atom_139_70, k_X12_atom_139_70, e_X12_atom_139_76, z_A_11, z_A_k, hf, f13, pl0, W, hw, S, hS, hdeep, z_A_sw I, z_A_w, y3, S2, hS2, av, wr2, k14, q_bd_l, z_ltT, z_ltF, z_eqT, z_eqF, z_ltlT, z_ltlF, z_lltT, z_lltF, z_eqlT, z_eqlF, z_in, z_k7, z_cl, z_lneg, z_llT, z_llF, z_s1, z_nI_cl, z_nlt0, z_ne_m1, z_b0, z_b1, z_la, z_al, z_lm, z_ml, z_nm, nI_add, pk_mul, ↓reduceIte, not_true_eq_false, not_false_eq_true, true_or, or_true, false_or, or_false, true_and, and_true, and_false, false_and, Classical.not_not, Nat.add_zero, z_01, z_em, z_bit_p, Nat.not_le, Nat.not_lt, reduceCtorEq, if_true, if_false]
        · rw [if_neg hS]
          have go : (if z_A I p 139 13 = -1 then q_bd (c_X12_place_139 X (d3 + 8) (z_A I p) T) (fun v9 h' => q_res X q_sb q_pg (d3 + 8) cd_X12_atom 8 [some (.ref 139), none, none, none] (v9.toList ++ []) h') else some (.inl (some (.int (0 : Int32))), (q_Z0, z_A I p, T))) = q_bd (c_X12_plain_139 X (d3 + 8) (z_A I s) T) (fun v9 h' => q_res X q_sb q_pg (d3 + 8) cd_X12_atom 21 [some (.ref 139), some (.int (nI s)), some (.int 0), none] (v9.toList ++ []) h') := by
            simp (disch := omega) only [e_X12_atom_139_8, e_X12_atom_139_12, e_X12_atom_139_18, k_X12_atom_139_8, k_X12_atom_139_12, k_X12_atom_139_18, z_A_11, z_A_k, hf, pl0, W, hw, S, hS, z_b, q_bd_l, z_ltT, z_ltF, z_eqT, z_eqF, z_ltlT, z_ltlF, z_lltT, z_lltF, z_eqlT, z_eqlF, z_in, z_k7, z_cl, z_lneg, z_llT, z_llF, z_s1, z_nI_cl, z_nlt0, z_ne_m1, z_b0, z_b1, z_la, z_al, z_lm, z_ml, z_nm, nI_add, pk_mul, ↓reduceIte, not_true_eq_false, not_false_eq_true, true_or, or_true, false_or, or_false, true_and, and_true, and_false, false_and, Classical.not_not, Nat.add_zero, z_01, z_em, z_bit_p, Nat.not_le, Nat.not_lt, reduceCtorEq, if_true, if_false]
          rw [go]
          cases hr : P_plain B n f s with
          | none => exact z_po_no
          | some r =>
            rw [hr] at pl
            cases r with
            | error e =>
              obtain ⟨v2, J, x1, xv, x2, x3, x4⟩ := pl.2 e rfl
              have x31 := x3.1
              have xv' : (v2 = 0 ∨ v2 = 1) = True := eq_true xv
              refine z_po_er v2 J ?_ xv x2 ⟨x31, z_aw_m x3.2 (by omega)⟩ x4
              simp (disch := omega) only [e_X12_atom_139_8, k_X12_atom_139_8, e_X12_atom_139_12, k_X12_atom_139_12, e_X12_atom_139_18, k_X12_atom_139_18, e_X12_atom_139_21, k_X12_atom_139_21, e_X12_atom_139_22, e_X12_atom_139_29, k_X12_atom_139_29, e_X12_atom_139_43, k_X12_atom_139_43, e_X12_atom_139_47, e_X12_atom_139_57, k_X12_atom_139_57, e_X12_atom_139_65, k_X12_atom_139_65, e_X12_atom_139_70, k_X12_atom_139_70, e_X12_atom_139_76, x1, xv', q_bd_l, z_ltT, z_ltF, z_eqT, z_eqF, z_ltlT, z_ltlF, z_lltT, z_lltF, z_eqlT, z_eqlF, z_in, z_k7, z_cl, z_lneg, z_llT, z_llF, z_s1, z_nI_cl, z_nlt0, z_ne_m1, z_b0, z_b1, z_la, z_al, z_lm, z_ml, z_nm, nI_add, pk_mul, ↓reduceIte, not_true_eq_false, not_false_eq_true, true_or, or_true, false_or, or_false, true_and, and_true, and_false, false_and, Classical.not_not, Nat.add_zero, z_01, z_em, z_bit_p, Nat.not_le, Nat.not_lt, reduceCtorEq, if_true, if_false]
            | ok a =>
              obtain ⟨q1, y1, y2, y3⟩ := pl.1 a rfl
              have av : (a.2.2 (z_fc I) = 0 ∨ a.2.2 (z_fc I) = 1) = True := by
                obtain ⟨c, c1, c2, -⟩ := (P_plain_w (e := 0) (by omega) hr).2.2.2.2 (z_fc I) ho
                rw [c2]
                rcases (by omega : c = 0 ∨ c = 1) with rfl | rfl <;> decide
              refine z_po_ok q1 y1 y2 ?_
              simp (disch := omega) only [e_X12_atom_139_8, k_X12_atom_139_8, e_X12_atom_139_12, k_X12_atom_139_12, e_X12_atom_139_18, k_X12_atom_139_18, e_X12_atom_139_21, k_X12_atom_139_21, e_X12_atom_139_22, e_X12_atom_139_29, k_X12_atom_139_29, e_X12_atom_139_43, k_X12_atom_139_43, e_X12_atom_139_47, e_X12_atom_139_57, k_X12_atom_139_57, e_X12_atom_139_65, k_X12_atom_139_65, e_X12_atom_139_70, k_X12_atom_139_70, e_X12_atom_139_76, y3, av, q_bd_l, z_ltT, z_ltF, z_eqT, z_eqF, z_ltlT, z_ltlF, z_lltT, z_lltF, z_eqlT, z_eqlF, z_in, z_k7, z_cl, z_lneg, z_llT, z_llF, z_s1, z_nI_cl, z_nlt0, z_ne_m1, z_b0, z_b1, z_la, z_al, z_lm, z_ml, z_nm, nI_add, pk_mul, ↓reduceIte, not_true_eq_false, not_false_eq_true, true_or, or_true, false_or, or_false, true_and, and_true, and_false, false_and, Classical.not_not, Nat.add_zero, z_01, z_em, z_bit_p, Nat.not_le, Nat.not_lt, reduceCtorEq, if_true, if_false]
    · intro hd
      obtain ⟨d3, rfl⟩ : ∃ d3, d = d3 + 9 + 1 := ⟨d - 10, by omega⟩
      have a0 := (ih dp p (d3 + 9) I hdp hp H).1 (by omega)
      rw [e_X12_every_139]
      unfold P_e
      cases hr : P_e B n f 0 dp (t_sk B n p) with
      | none => rw [p_bd_n]; exact z_po_no
      | some r =>
        rw [hr] at a0
        cases r with
        | error e =>
          rw [p_bd_e]
          obtain ⟨v2, J, x1, xv, x2, x3, x4⟩ := a0.2 e rfl
          have x31 := x3.1
          refine z_po_er v2 J ?_ xv x2 x3 x4
          simp (disch := omega) only [e_X12_every_139, e_X12_every_139_2, k_X12_every_139_2, e_X12_every_139_10, k_X12_every_139_10, e_X12_every_139_13, k_X12_every_139_13, e_X12_every_139_20, e_X12_every_139_21, e_X12_every_139_23, x1, l_ev3e X (d3 + 9) v2 xv none J T e (by omega) x2, q_bd_l, z_ltT, z_ltF, z_eqT, z_eqF, z_ltlT, z_ltlF, z_lltT, z_lltF, z_eqlT, z_eqlF, z_in, z_k7, z_cl, z_lneg, z_llT, z_llF, z_s1, z_nI_cl, z_nlt0, z_ne_m1, z_b0, z_b1, z_la, z_al, z_lm, z_ml, z_nm, nI_add, pk_mul, ↓reduceIte, not_true_eq_false, not_false_eq_true, true_or, or_true, false_or, or_false, true_and, and_true, and_false, false_and, Classical.not_not, Nat.add_zero, z_01, z_em, z_bit_p, Nat.not_le, Nat.not_lt, reduceCtorEq, if_true, if_false]
        | ok a =>
          rw [p_bd_o]
          obtain ⟨q1, y1, y2, y3⟩ := a0.1 a rfl
          have av : z_01b (a.2.2 (z_fc I)) := by
            obtain ⟨c, c1, c2, -⟩ := ((P_e_w B n f dp _ a hdp).1 hr).2.2.2.2 (z_fc I) ho
            rw [c2]
            rcases (by omega : c = 0 ∨ c = 1) with rfl | rfl
            · exact .inl rfl
            · exact .inr rfl
          have t0 := (ih dp q1 (d3 + 9) I hdp y1 H).2.2.2.1 (by omega) (a.2.2 (z_fc I)) none av
          rw [y2] at t0
          have go : q_bd (c_X12_atom_139 X (d3 + 9) (z_A I p) T) (fun v9 h' => q_res X q_sb q_pg (d3 + 9) cd_X12_every 2 [some (.ref 139), none, none] (v9.toList ++ []) h') = c_X12_every_139_3 X (d3 + 9) (a.2.2 (z_fc I)) none (z_A I q1) T := by
            simp (disch := omega) only [e_X12_every_139, e_X12_every_139_2, k_X12_every_139_2, e_X12_every_139_10, k_X12_every_139_10, e_X12_every_139_13, k_X12_every_139_13, e_X12_every_139_20, e_X12_every_139_21, e_X12_every_139_23, y3, q_bd_l, z_ltT, z_ltF, z_eqT, z_eqF, z_ltlT, z_ltlF, z_lltT, z_lltF, z_eqlT, z_eqlF, z_in, z_k7, z_cl, z_lneg, z_llT, z_llF, z_s1, z_nI_cl, z_nlt0, z_ne_m1, z_b0, z_b1, z_la, z_al, z_lm, z_ml, z_nm, nI_add, pk_mul, ↓reduceIte, not_true_eq_false, not_false_eq_true, true_or, or_true, false_or, or_false, true_and, and_true, and_false, false_and, Classical.not_not, Nat.add_zero, z_01, z_em, z_bit_p, Nat.not_le, Nat.not_lt, reduceCtorEq, if_true, if_false]
          rw [go]
          cases hr2 : P_e B n f 3 dp a.1 with
          | none => rw [p_bd_n]; exact z_po_no
          | some r2 =>
            rw [hr2] at t0
            cases r2 with
            | error e =>
              rw [p_bd_e]
              obtain ⟨v2, J, x1, xv, x2, x3, x4⟩ := t0.2 e rfl
              have x31 := x3.1
              exact z_po_er v2 J x1 xv x2 x3 x4
            | ok b =>
              rw [p_bd_o]
              obtain ⟨q2, w1, w2, w3⟩ := t0.1 b rfl
              exact z_po_ok q2 w1 w2 w3
    · intro hd
      obtain ⟨d3, rfl⟩ : ∃ d3, d = d3 + 10 + 1 := ⟨d - 11, by omega⟩
      have a0 := (ih dp p (d3 + 10) I hdp hp H).2.1 (by omega)
      rw [e_X12_some_139]
      unfold P_e
      cases hr : P_e B n f 1 dp (t_sk B n p) with
      | none => rw [p_bd_n]; exact z_po_no
      | some r =>
        rw [hr] at a0
        cases r with
        | error e =>
          rw [p_bd_e]
          obtain ⟨v2, J, x1, xv, x2, x3, x4⟩ := a0.2 e rfl
          have x31 := x3.1
          refine z_po_er v2 J ?_ xv x2 x3 x4
          simp (disch := omega) only [e_X12_some_139, e_X12_some_139_2, k_X12_some_139_2, e_X12_some_139_10, k_X12_some_139_10, e_X12_some_139_13, k_X12_some_139_13, e_X12_some_139_18, e_X12_some_139_21, e_X12_some_139_23, x1, l_so3e X (d3 + 10) v2 xv none J T e (by omega) x2, q_bd_l, z_ltT, z_ltF, z_eqT, z_eqF, z_ltlT, z_ltlF, z_lltT, z_lltF, z_eqlT, z_eqlF, z_in, z_k7, z_cl, z_lneg, z_llT, z_llF, z_s1, z_nI_cl, z_nlt0, z_ne_m1, z_b0, z_b1, z_la, z_al, z_lm, z_ml, z_nm, nI_add, pk_mul, ↓reduceIte, not_true_eq_false, not_false_eq_true, true_or, or_true, false_or, or_false, true_and, and_true, and_false, false_and, Classical.not_not, Nat.add_zero, z_01, z_em, z_bit_p, Nat.not_le, Nat.not_lt, reduceCtorEq, if_true, if_false]
        | ok a =>
          rw [p_bd_o]
          obtain ⟨q1, y1, y2, y3⟩ := a0.1 a rfl
          have av : z_01b (a.2.2 (z_fc I)) := by
            obtain ⟨c, c1, c2, -⟩ := ((P_e_w B n f dp _ a hdp).2.1 hr).2.2.2.2 (z_fc I) ho
            rw [c2]
            rcases (by omega : c = 0 ∨ c = 1) with rfl | rfl
            · exact .inl rfl
            · exact .inr rfl
          have t0 := (ih dp q1 (d3 + 10) I hdp y1 H).2.2.2.2 (by omega) (a.2.2 (z_fc I)) none av
          rw [y2] at t0
          have go : q_bd (c_X12_every_139 X (d3 + 10) (z_A I p) T) (fun v9 h' => q_res X q_sb q_pg (d3 + 10) cd_X12_some 2 [some (.ref 139), none, none] (v9.toList ++ []) h') = c_X12_some_139_3 X (d3 + 10) (a.2.2 (z_fc I)) none (z_A I q1) T := by
            simp (disch := omega) only [e_X12_some_139, e_X12_some_139_2, k_X12_some_139_2, e_X12_some_139_10, k_X12_some_139_10, e_X12_some_139_13, k_X12_some_139_13, e_X12_some_139_18, e_X12_some_139_21, e_X12_some_139_23, y3, q_bd_l, z_ltT, z_ltF, z_eqT, z_eqF, z_ltlT, z_ltlF, z_lltT, z_lltF, z_eqlT, z_eqlF, z_in, z_k7, z_cl, z_lneg, z_llT, z_llF, z_s1, z_nI_cl, z_nlt0, z_ne_m1, z_b0, z_b1, z_la, z_al, z_lm, z_ml, z_nm, nI_add, pk_mul, ↓reduceIte, not_true_eq_false, not_false_eq_true, true_or, or_true, false_or, or_false, true_and, and_true, and_false, false_and, Classical.not_not, Nat.add_zero, z_01, z_em, z_bit_p, Nat.not_le, Nat.not_lt, reduceCtorEq, if_true, if_false]
          rw [go]
          cases hr2 : P_e B n f 4 dp a.1 with
          | none => rw [p_bd_n]; exact z_po_no
          | some r2 =>
            rw [hr2] at t0
            cases r2 with
            | error e =>
              rw [p_bd_e]
              obtain ⟨v2, J, x1, xv, x2, x3, x4⟩ := t0.2 e rfl
              have x31 := x3.1
              exact z_po_er v2 J x1 xv x2 x3 x4
            | ok b =>
              rw [p_bd_o]
              obtain ⟨q2, w1, w2, w3⟩ := t0.1 b rfl
              exact z_po_ok q2 w1 w2 w3
    · intro hd v o hv
      obtain ⟨d3, rfl⟩ : ∃ d3, d = d3 + 9 := ⟨d - 9, by omega⟩
      have W := l_word X (d3 + 6) 65 (by decide) I T h p hp
      have hv' : (v = 0 ∨ v = 1) = True := eq_true hv
      rw [e_X12_every_139_3]
      unfold P_e
      generalize es : t_sk B n p = s at *
      by_cases hw : t_isW (t_w 65) B n s = true
      · rw [if_pos hw]
        have hW := t_end_W (w := t_w 65) (by decide) hw
        have a0 := (ih dp (s + (t_w 65).length) (d3 + 9) I hdp hW.2 H).1 (by omega)
        rw [hW.1] at a0
        cases hr : P_e B n f 0 dp (t_nx B n s) with
        | none => rw [p_bd_n]; exact z_pg_no
        | some r =>
          rw [hr] at a0
          cases r with
          | error e =>
            rw [p_bd_e]
            obtain ⟨v2, J, x1, xv, x2, x3, x4⟩ := a0.2 e rfl
            have x31 := x3.1
            refine z_pg_er (z_and v v2) J ?_ (z_and_01 _ _) x2 x3 x4
            simp (disch := omega) only [e_X12_every_139_10, k_X12_every_139_10, k_X12_every_139_13, z_A_k, hf, W, hw, x1, l_ev13, l_ev3e X (d3 + 9) (z_and v v2) (z_and_01 _ _) (some (.int v2)) J T e (by omega) x2, q_bd_l, z_ltT, z_ltF, z_eqT, z_eqF, z_ltlT, z_ltlF, z_lltT, z_lltF, z_eqlT, z_eqlF, z_in, z_k7, z_cl, z_lneg, z_llT, z_llF, z_s1, z_nI_cl, z_nlt0, z_ne_m1, z_b0, z_b1, z_la, z_al, z_lm, z_ml, z_nm, nI_add, pk_mul, ↓reduceIte, not_true_eq_false, not_false_eq_true, true_or, or_true, false_or, or_false, true_and, and_true, and_false, false_and, Classical.not_not, Nat.add_zero, z_01, z_em, z_bit_p, Nat.not_le, Nat.not_lt, reduceCtorEq, if_true, if_false]
          | ok a =>
            rw [p_bd_o]
            obtain ⟨q1, y1, y2, y3⟩ := a0.1 a rfl
            have t0 := (ih dp q1 (d3 + 9) I hdp y1 H).2.2.2.1 (by omega) (z_and v (a.2.2 (z_fc I))) (some (.int (a.2.2 (z_fc I)))) (z_and_01 _ _)
            rw [y2] at t0
            have go : (if z_A I p 139 13 = -1 then q_bd (c_X12_has__139 X (d3 + 9) 65 (z_A I p) T) (fun v9 h' => q_res X q_sb q_pg (d3 + 9) cd_X12_every 10 [some (.ref 139), some (.int v), o] (v9.toList ++ []) h') else c_X12_every_139_23 X (d3 + 9) v o (z_A I p) T) = c_X12_every_139_3 X (d3 + 9) (z_and v (a.2.2 (z_fc I))) (some (.int (a.2.2 (z_fc I)))) (z_A I q1) T := by
              simp (disch := omega) only [e_X12_every_139_10, k_X12_every_139_10, k_X12_every_139_13, z_A_k, hf, W, hw, y3, l_ev13, q_bd_l, z_ltT, z_ltF, z_eqT, z_eqF, z_ltlT, z_ltlF, z_lltT, z_lltF, z_eqlT, z_eqlF, z_in, z_k7, z_cl, z_lneg, z_llT, z_llF, z_s1, z_nI_cl, z_nlt0, z_ne_m1, z_b0, z_b1, z_la, z_al, z_lm, z_ml, z_nm, nI_add, pk_mul, ↓reduceIte, not_true_eq_false, not_false_eq_true, true_or, or_true, false_or, or_false, true_and, and_true, and_false, false_and, Classical.not_not, Nat.add_zero, z_01, z_em, z_bit_p, Nat.not_le, Nat.not_lt, reduceCtorEq, if_true, if_false]
            rw [go]
            cases hr2 : P_e B n f 3 dp a.1 with
            | none => rw [p_bd_n]; exact z_pg_no
            | some r2 =>
              rw [hr2] at t0
              cases r2 with
              | error e =>
                rw [p_bd_e]
                obtain ⟨v2, J, x1, xv, x2, x3, x4⟩ := t0.2 e rfl
                have x31 := x3.1
                exact z_pg_er v2 J x1 xv x2 x3 x4
              | ok b =>
                rw [p_bd_o]
                obtain ⟨q2, w1, w2, w3⟩ := t0.1 b rfl
                refine z_pg_ok q2 w1 w2 ?_
                rw [w3, z_and_as]
      · rw [if_neg hw]
        refine z_pg_ok s hs (by rw [← es]; exact t_sk_sk B n p) ?_
        simp (disch := omega) only [e_X12_every_139, e_X12_every_139_2, k_X12_every_139_2, e_X12_every_139_10, k_X12_every_139_10, e_X12_every_139_13, k_X12_every_139_13, e_X12_every_139_20, e_X12_every_139_21, e_X12_every_139_23, z_A_k, hf, W, hw, hv', z_and_1 hv, q_bd_l, z_ltT, z_ltF, z_eqT, z_eqF, z_ltlT, z_ltlF, z_lltT, z_lltF, z_eqlT, z_eqlF, z_in, z_k7, z_cl, z_lneg, z_llT, z_llF, z_s1, z_nI_cl, z_nlt0, z_ne_m1, z_b0, z_b1, z_la, z_al, z_lm, z_ml, z_nm, nI_add, pk_mul, ↓reduceIte, not_true_eq_false, not_false_eq_true, true_or, or_true, false_or, or_false, true_and, and_true, and_false, false_and, Classical.not_not, Nat.add_zero, z_01, z_em, z_bit_p, Nat.not_le, Nat.not_lt, reduceCtorEq, if_true, if_false]
    · intro hd v o hv
      obtain ⟨d3, rfl⟩ : ∃ d3, d = d3 + 10 := ⟨d - 10, by omega⟩
      have W := l_word X (d3 + 7) 66 (by decide) I T h p hp
      have hv' : (v = 0 ∨ v = 1) = True := eq_true hv
      rw [e_X12_some_139_3]
      unfold P_e
      generalize es : t_sk B n p = s at *
      by_cases hw : t_isW (t_w 66) B n s = true
      · rw [if_pos hw]
        have hW := t_end_W (w := t_w 66) (by decide) hw
        have a0 := (ih dp (s + (t_w 66).length) (d3 + 10) I hdp hW.2 H).2.1 (by omega)
        rw [hW.1] at a0
        cases hr : P_e B n f 1 dp (t_nx B n s) with
        | none => rw [p_bd_n]; exact z_pg_no
        | some r =>
          rw [hr] at a0
          cases r with
          | error e =>
            rw [p_bd_e]
            obtain ⟨v2, J, x1, xv, x2, x3, x4⟩ := a0.2 e rfl
            have x31 := x3.1
            refine z_pg_er (z_or v v2) J ?_ (z_or_01 _ _) x2 x3 x4
            simp (disch := omega) only [e_X12_some_139_10, k_X12_some_139_10, k_X12_some_139_13, z_A_k, hf, W, hw, x1, l_so13, l_so3e X (d3 + 10) (z_or v v2) (z_or_01 _ _) (some (.int v2)) J T e (by omega) x2, q_bd_l, z_ltT, z_ltF, z_eqT, z_eqF, z_ltlT, z_ltlF, z_lltT, z_lltF, z_eqlT, z_eqlF, z_in, z_k7, z_cl, z_lneg, z_llT, z_llF, z_s1, z_nI_cl, z_nlt0, z_ne_m1, z_b0, z_b1, z_la, z_al, z_lm, z_ml, z_nm, nI_add, pk_mul, ↓reduceIte, not_true_eq_false, not_false_eq_true, true_or, or_true, false_or, or_false, true_and, and_true, and_false, false_and, Classical.not_not, Nat.add_zero, z_01, z_em, z_bit_p, Nat.not_le, Nat.not_lt, reduceCtorEq, if_true, if_false]
          | ok a =>
            rw [p_bd_o]
            obtain ⟨q1, y1, y2, y3⟩ := a0.1 a rfl
            have t0 := (ih dp q1 (d3 + 10) I hdp y1 H).2.2.2.2 (by omega) (z_or v (a.2.2 (z_fc I))) (some (.int (a.2.2 (z_fc I)))) (z_or_01 _ _)
            rw [y2] at t0
            have go : (if z_A I p 139 13 = -1 then q_bd (c_X12_has__139 X (d3 + 10) 66 (z_A I p) T) (fun v9 h' => q_res X q_sb q_pg (d3 + 10) cd_X12_some 10 [some (.ref 139), some (.int v), o] (v9.toList ++ []) h') else c_X12_some_139_23 X (d3 + 10) v o (z_A I p) T) = c_X12_some_139_3 X (d3 + 10) (z_or v (a.2.2 (z_fc I))) (some (.int (a.2.2 (z_fc I)))) (z_A I q1) T := by
              simp (disch := omega) only [e_X12_some_139_10, k_X12_some_139_10, k_X12_some_139_13, z_A_k, hf, W, hw, y3, l_so13, q_bd_l, z_ltT, z_ltF, z_eqT, z_eqF, z_ltlT, z_ltlF, z_lltT, z_lltF, z_eqlT, z_eqlF, z_in, z_k7, z_cl, z_lneg, z_llT, z_llF, z_s1, z_nI_cl, z_nlt0, z_ne_m1, z_b0, z_b1, z_la, z_al, z_lm, z_ml, z_nm, nI_add, pk_mul, ↓reduceIte, not_true_eq_false, not_false_eq_true, true_or, or_true, false_or, or_false, true_and, and_true, and_false, false_and, Classical.not_not, Nat.add_zero, z_01, z_em, z_bit_p, Nat.not_le, Nat.not_lt, reduceCtorEq, if_true, if_false]
            rw [go]
            cases hr2 : P_e B n f 4 dp a.1 with
            | none => rw [p_bd_n]; exact z_pg_no
            | some r2 =>
              rw [hr2] at t0
              cases r2 with
              | error e =>
                rw [p_bd_e]
                obtain ⟨v2, J, x1, xv, x2, x3, x4⟩ := t0.2 e rfl
                have x31 := x3.1
                exact z_pg_er v2 J x1 xv x2 x3 x4
              | ok b =>
                rw [p_bd_o]
                obtain ⟨q2, w1, w2, w3⟩ := t0.1 b rfl
                refine z_pg_ok q2 w1 w2 ?_
                rw [w3, z_or_as]
      · rw [if_neg hw]
        refine z_pg_ok s hs (by rw [← es]; exact t_sk_sk B n p) ?_
        simp (disch := omega) only [e_X12_some_139, e_X12_some_139_2, k_X12_some_139_2, e_X12_some_139_10, k_X12_some_139_10, e_X12_some_139_13, k_X12_some_139_13, e_X12_some_139_18, e_X12_some_139_21, e_X12_some_139_23, z_A_k, hf, W, hw, hv', z_or_0 hv, q_bd_l, z_ltT, z_ltF, z_eqT, z_eqF, z_ltlT, z_ltlF, z_lltT, z_lltF, z_eqlT, z_eqlF, z_in, z_k7, z_cl, z_lneg, z_llT, z_llF, z_s1, z_nI_cl, z_nlt0, z_ne_m1, z_b0, z_b1, z_la, z_al, z_lm, z_ml, z_nm, nI_add, pk_mul, ↓reduceIte, not_true_eq_false, not_false_eq_true, true_or, or_true, false_or, or_false, true_and, and_true, and_false, false_and, Classical.not_not, Nat.add_zero, z_01, z_em, z_bit_p, Nat.not_le, Nat.not_lt, reduceCtorEq, if_true, if_false]
