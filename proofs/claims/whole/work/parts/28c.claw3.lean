/-! ===== THE CLASS READS THE LAW: conditions ===== -/
def k_Ko (I : Ii) (T : Tt) (B : Nat → Nat) (n : Nat) (S : List Int32) (r : Pr) (x : Rs) (go : Int32 → Ii → Rs) : Prop := (∀ v, r = some (.ok v) → ∃ J k, x = go k J ∧ z_Rd J B n v.1 ∧ k_St J (S ++ v.2.1) ∧ z_fr m_lr I J) ∧ (∀ e, r = some (.error e) → ∃ J, x = z_r 0 J T ∧ z_Rd J B n e ∧ z_fr m_lr I J)
def K_A (X : Sx) (T : Tt) (B : Nat → Nat) (n f : Nat) : Prop := ∀ (d dp p : Nat) (S : List Int32) (I : Ii), dp ≤ 6 → z_Rd I B n p → k_St I S → S.length + 1 ≤ p → k_P I T B n S (P_e B n f 0 dp p) (c_X5_readAtom_127 X (d + 3 * (6 - dp) + 6) (nI dp) I T)
def K_1 (X : Sx) (T : Tt) (B : Nat → Nat) (n f : Nat) : Prop := ∀ (d dp p : Nat) (v2 : Int32) (S : List Int32) (I : Ii), dp ≤ 6 → z_Rd I B n p → k_St I S → S.length + 1 ≤ p → k_Ko I T B n S (P_e B n f 1 dp p) (c_X5_readAny_127_7 X (d + 3 * (6 - dp) + 6) (nI dp) v2 0 I T) (fun k J => c_X5_readAny_127_31 X (d + 3 * (6 - dp) + 6) (nI dp) v2 k J T)
def K_3 (X : Sx) (T : Tt) (B : Nat → Nat) (n f : Nat) : Prop := ∀ (d dp q i : Nat) (v2 : Int32) (S : List Int32) (I : Ii), dp ≤ 6 → z_Rd I B n q → k_St I S → S.length ≤ q → i + 2 ≤ q → k_Ko I T B n S (P_e B n f 3 dp q) (c_X5_readAny_127_7 X (d + 3 * (6 - dp) + 6) (nI dp) v2 (nI (i + 1)) I T) (fun k J => c_X5_readAny_127_31 X (d + 3 * (6 - dp) + 6) (nI dp) v2 k J T)
def K_4 (X : Sx) (T : Tt) (B : Nat → Nat) (n f : Nat) : Prop := ∀ (d dp q i : Nat) (v3 : Int32) (S : List Int32) (I : Ii), dp ≤ 6 → z_Rd I B n q → k_St I S → S.length ≤ q → i + 1 ≤ q → k_P I T B n S (P_e B n f 4 dp q) (c_X5_readAny_127_37 X (d + 3 * (6 - dp) + 6) (nI dp) (nI i) v3 I T)
def K_2 (X : Sx) (T : Tt) (B : Nat → Nat) (n f : Nat) : Prop := ∀ (d dp p : Nat) (S : List Int32) (I : Ii), dp ≤ 6 → z_Rd I B n p → k_St I S → S.length + 1 ≤ p → k_P I T B n S (P_e B n f 2 dp p) (c_X5_readAny_127 X (d + 3 * (6 - dp) + 7) (nI dp) I T)
/-- put together: what was read, then what is behind it -/
theorem K_1_s {X : Sx} {T : Tt} {B : Nat → Nat} {n f : Nat} (hA : K_A X T B n f) (h3 : K_3 X T B n f) : K_1 X T B n (f + 1) := by
  intro d dp p v2 S I hdp h hS hl
  have A := hA d dp p S I hdp h hS hl
  have st : c_X5_readAny_127_7 X (d + 3 * (6 - dp) + 6) (nI dp) v2 0 I T = q_bd (c_X5_readAtom_127 X (d + 3 * (6 - dp) + 6) (nI dp) I T) (fun v h' => q_res X q_sb q_pg (d + 3 * (6 - dp) + 6) cd_X5_readAny 20 [some (.ref 127), some (.int (nI dp)), some (.int v2), some (.int 0)] (v.toList ++ []) h') := by
    rw [e_X5_readAny_127_7, if_pos rfl, e_X5_readAny_127_17]
  rw [st]
  show k_Ko I T B n S (p_bd (P_e B n f 0 dp p) _) _ _
  cases ha : P_e B n f 0 dp p with
  | none => exact ⟨fun v h => (by cases h), fun e h => (by cases h)⟩
  | some ra =>
    cases ra with
    | error e =>
      refine ⟨fun v h => (by cases h), fun e' h => ?_⟩
      cases h
      obtain ⟨J, j1, j2, j3⟩ := A.2 e ha
      refine ⟨J, ?_, j2, j3⟩
      rw [j1]
      simp (disch := omega) only [e_X5_readAny_127_20, k_X5_readAny_127_20, q_bd_l, z_ltT, z_ltF, z_eqT, z_eqF, z_ltlT, z_ltlF, z_lltT, z_lltF, z_eqlT, z_eqlF, z_in, z_k7, z_cl, z_lneg, z_llT, z_llF, z_s1, z_nI_cl, z_nlt0, z_ne_m1, z_b0, z_b1, z_la, z_al, z_lm, z_ml, z_nm, nI_add, pk_mul, ↓reduceIte, not_true_eq_false, not_false_eq_true, true_or, or_true, false_or, or_false, true_and, and_true, and_false, false_and, Classical.not_not, Nat.add_zero, z_01, z_em, z_bit_p, Nat.not_le, Nat.not_lt, reduceCtorEq, if_true, if_false]
    | ok a =>
      have w := (P_e_w B n f dp p a hdp).1 ha
      obtain ⟨J, j1, j2, j3, j4⟩ := A.1 a ha
      have la : a.2.1.length ≤ a.1 - p + 1 := w.2.2.2.1
      have pa : p < a.1 := w.1
      have nx := h3 d dp a.1 0 v2 (S ++ a.2.1) J hdp j2 j3 (by rw [List.length_append]; omega) (by omega)
      have st2 : q_bd (z_r 1 J T) (fun v h' => q_res X q_sb q_pg (d + 3 * (6 - dp) + 6) cd_X5_readAny 20 [some (.ref 127), some (.int (nI dp)), some (.int v2), some (.int 0)] (v.toList ++ []) h') = c_X5_readAny_127_7 X (d + 3 * (6 - dp) + 6) (nI dp) v2 (nI (0 + 1)) J T := by
        simp (disch := omega) only [e_X5_readAny_127_20, k_X5_readAny_127_20, e_X5_readAny_127_29, q_bd_l, z_ltT, z_ltF, z_eqT, z_eqF, z_ltlT, z_ltlF, z_lltT, z_lltF, z_eqlT, z_eqlF, z_in, z_k7, z_cl, z_lneg, z_llT, z_llF, z_s1, z_nI_cl, z_nlt0, z_ne_m1, z_b0, z_b1, z_la, z_al, z_lm, z_ml, z_nm, nI_add, pk_mul, ↓reduceIte, not_true_eq_false, not_false_eq_true, true_or, or_true, false_or, or_false, true_and, and_true, and_false, false_and, Classical.not_not, Nat.add_zero, z_01, z_em, z_bit_p, Nat.not_le, Nat.not_lt, reduceCtorEq, if_true, if_false]
        rfl
      rw [j1, st2]
      show k_Ko I T B n S (p_bd (P_e B n f 3 dp a.1) _) _ _
      cases ht : P_e B n f 3 dp a.1 with
      | none => exact ⟨fun v h => (by cases h), fun e h => (by cases h)⟩
      | some rb =>
        cases rb with
        | error e =>
          refine ⟨fun v h => (by cases h), fun e' h => ?_⟩
          cases h
          obtain ⟨K, k1, k2, k3⟩ := nx.2 e ht
          exact ⟨K, k1, k2, z_fr_t j4 k3⟩
        | ok b =>
          refine ⟨fun v h => ?_, fun e h => (by cases h)⟩
          cases h
          obtain ⟨K, k, k1, k2, k3, k4⟩ := nx.1 b ht
          refine ⟨K, k, k1, k2, ?_, z_fr_t j4 k4⟩
          rw [List.append_assoc] at k3
          exact k3
theorem K_3_s {X : Sx} {T : Tt} {B : Nat → Nat} {n f : Nat} (hA : K_A X T B n f) (h3 : K_3 X T B n f) : K_3 X T B n (f + 1) := by
  intro d dp q i v2 S I hdp h hS hl hi
  have hq := h.2.1.1
  have hn := h.1.1
  obtain ⟨-, k2, k3⟩ := k_w X (d + 3 * (6 - dp) + 4) 32 65 (by decide) (by decide +kernel) (by decide +kernel) I T h
  have e400 : nI (i + 1) < (400 : Int32) := nI_lt (b := 400) (by omega) (by omega)
  have e0 : ¬ nI (i + 1) = 0 := by
    have : (nI (i + 1) = (0 : Int32)) = (i + 1 = 0) := z_eq_l _ 0 (by omega) (by omega)
    rw [this]; omega
  show k_Ko I T B n S (if t_isW (t_w 65) B n q = true then _ else _) _ _
  rw [e_X5_readAny_127_7, if_neg e0, if_pos e400]
  by_cases c : t_isW (t_w 65) B n q = true
  · rw [if_pos c]
    obtain ⟨C, b1, b2, b3⟩ := k2 c
    have b1' : c_X10_takeWord_1 X (d + 3 * (6 - dp) + 6) (32 : UInt32) I T = z_r 1 C T := b1
    have hW := t_end_W (w := t_w 65) (by decide +kernel) c
    have l3 : (t_w 65).length = 3 := by decide +kernel
    have hg := t_scan_ge t_blk B n (q + (t_w 65).length)
    have hgt : q + 3 ≤ t_nx B n q := by rw [← hW.1]; unfold t_sk; omega
    have A := hA d dp (t_nx B n q) S C hdp b3 (k_St_ta hS b2) (by omega)
    have st : q_bd (c_X10_takeWord_1 X (d + 3 * (6 - dp) + 6) 32 I T) (fun v h' => q_res X q_sb q_pg (d + 3 * (6 - dp) + 6) cd_X5_readAny 16 [some (.ref 127), some (.int (nI dp)), some (.int v2), some (.int (nI (i + 1)))] (v.toList ++ []) h') = q_bd (c_X5_readAtom_127 X (d + 3 * (6 - dp) + 6) (nI dp) C T) (fun v h' => q_res X q_sb q_pg (d + 3 * (6 - dp) + 6) cd_X5_readAny 20 [some (.ref 127), some (.int (nI dp)), some (.int v2), some (.int (nI (i + 1)))] (v.toList ++ []) h') := by
      simp (disch := omega) only [e_X5_readAny_127_16, k_X5_readAny_127_16, e_X5_readAny_127_17, b1', q_bd_l, z_ltT, z_ltF, z_eqT, z_eqF, z_ltlT, z_ltlF, z_lltT, z_lltF, z_eqlT, z_eqlF, z_in, z_k7, z_cl, z_lneg, z_llT, z_llF, z_s1, z_nI_cl, z_nlt0, z_ne_m1, z_b0, z_b1, z_la, z_al, z_lm, z_ml, z_nm, nI_add, pk_mul, ↓reduceIte, not_true_eq_false, not_false_eq_true, true_or, or_true, false_or, or_false, true_and, and_true, and_false, false_and, Classical.not_not, Nat.add_zero, z_01, z_em, z_bit_p, Nat.not_le, Nat.not_lt, reduceCtorEq, if_true, if_false]
    rw [st]
    cases ha : P_e B n f 0 dp (t_nx B n q) with
    | none => exact ⟨fun v h => (by cases h), fun e h => (by cases h)⟩
    | some ra =>
      cases ra with
      | error e =>
        refine ⟨fun v h => (by cases h), fun e' h => ?_⟩
        cases h
        obtain ⟨J, j1, j2, j3⟩ := A.2 e ha
        refine ⟨J, ?_, j2, z_fr_t (z_lr_ta b2) j3⟩
        rw [j1]
        simp (disch := omega) only [e_X5_readAny_127_20, k_X5_readAny_127_20, q_bd_l, z_ltT, z_ltF, z_eqT, z_eqF, z_ltlT, z_ltlF, z_lltT, z_lltF, z_eqlT, z_eqlF, z_in, z_k7, z_cl, z_lneg, z_llT, z_llF, z_s1, z_nI_cl, z_nlt0, z_ne_m1, z_b0, z_b1, z_la, z_al, z_lm, z_ml, z_nm, nI_add, pk_mul, ↓reduceIte, not_true_eq_false, not_false_eq_true, true_or, or_true, false_or, or_false, true_and, and_true, and_false, false_and, Classical.not_not, Nat.add_zero, z_01, z_em, z_bit_p, Nat.not_le, Nat.not_lt, reduceCtorEq, if_true, if_false]
      | ok a =>
        have w := (P_e_w B n f dp _ a hdp).1 ha
        obtain ⟨J, j1, j2, j3, j4⟩ := A.1 a ha
        have la : a.2.1.length ≤ a.1 - t_nx B n q + 1 := w.2.2.2.1
        have pa : t_nx B n q < a.1 := w.1
        have aq := j2.2.1.1
        obtain ⟨E, e1, e2, e3, e4⟩ := k_add X (d + 3 * (6 - dp) + 5) J T 1205 j3 (by rw [List.length_append]; omega) j2
        have nx := h3 d dp a.1 (i + 1) v2 (S ++ a.2.1 ++ [1205]) E hdp e3 e4 (by rw [List.length_append, List.length_append]; show S.length + a.2.1.length + 1 ≤ _; omega) (by omega)
        have st2 : q_bd (z_r 1 J T) (fun v h' => q_res X q_sb q_pg (d + 3 * (6 - dp) + 6) cd_X5_readAny 20 [some (.ref 127), some (.int (nI dp)), some (.int v2), some (.int (nI (i + 1)))] (v.toList ++ []) h') = c_X5_readAny_127_7 X (d + 3 * (6 - dp) + 6) (nI dp) v2 (nI (i + 1 + 1)) E T := by
          simp (disch := omega) only [e_X5_readAny_127_20, k_X5_readAny_127_20, e_X5_readAny_127_29, k_X5_readAny_127_29, e1, q_bd_l, z_ltT, z_ltF, z_eqT, z_eqF, z_ltlT, z_ltlF, z_lltT, z_lltF, z_eqlT, z_eqlF, z_in, z_k7, z_cl, z_lneg, z_llT, z_llF, z_s1, z_nI_cl, z_nlt0, z_ne_m1, z_b0, z_b1, z_la, z_al, z_lm, z_ml, z_nm, nI_add, pk_mul, ↓reduceIte, not_true_eq_false, not_false_eq_true, true_or, or_true, false_or, or_false, true_and, and_true, and_false, false_and, Classical.not_not, Nat.add_zero, z_01, z_em, z_bit_p, Nat.not_le, Nat.not_lt, reduceCtorEq, if_true, if_false]
        rw [j1, st2]
        show k_Ko I T B n S (p_bd (P_e B n f 3 dp a.1) _) _ _
        have fE : z_fr m_lr I E := z_fr_t (z_lr_ta b2) (z_fr_t j4 e2)
        cases ht : P_e B n f 3 dp a.1 with
        | none => exact ⟨fun v h => (by cases h), fun e h => (by cases h)⟩
        | some rb =>
          cases rb with
          | error e =>
            refine ⟨fun v h => (by cases h), fun e' h => ?_⟩
            cases h
            obtain ⟨K, k1, k2, k3⟩ := nx.2 e ht
            exact ⟨K, k1, k2, z_fr_t fE k3⟩
          | ok b =>
            refine ⟨fun v h => ?_, fun e h => (by cases h)⟩
            cases h
            obtain ⟨K, k, k1, k2, k3, k4⟩ := nx.1 b ht
            refine ⟨K, k, k1, k2, ?_, z_fr_t fE k4⟩
            have ea : S ++ a.2.1 ++ [1205] ++ b.2.1 = S ++ (a.2.1 ++ 1205 :: b.2.1) := by simp
            rw [ea] at k3
            exact k3
  · rw [if_neg c]
    obtain ⟨C, b1, b2, b3⟩ := k3 c
    have b1' : c_X10_takeWord_1 X (d + 3 * (6 - dp) + 6) (32 : UInt32) I T = z_r 0 C T := b1
    refine ⟨fun v h => ?_, fun e h => (by cases h)⟩
    cases h
    refine ⟨C, nI (i + 1), ?_, b3, by rw [List.append_nil]; exact k_St_ta hS b2, z_lr_ta b2⟩
    simp (disch := omega) only [e_X5_readAny_127_16, k_X5_readAny_127_16, b1', q_bd_l, z_ltT, z_ltF, z_eqT, z_eqF, z_ltlT, z_ltlF, z_lltT, z_lltF, z_eqlT, z_eqlF, z_in, z_k7, z_cl, z_lneg, z_llT, z_llF, z_s1, z_nI_cl, z_nlt0, z_ne_m1, z_b0, z_b1, z_la, z_al, z_lm, z_ml, z_nm, nI_add, pk_mul, ↓reduceIte, not_true_eq_false, not_false_eq_true, true_or, or_true, false_or, or_false, true_and, and_true, and_false, false_and, Classical.not_not, Nat.add_zero, z_01, z_em, z_bit_p, Nat.not_le, Nat.not_lt, reduceCtorEq, if_true, if_false]
