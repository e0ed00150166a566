/-! ===== THE CLASS READS THE LAW: conditions, to the end ===== -/
theorem K_4_s {X : Sx} {T : Tt} {B : Nat → Nat} {n f : Nat} (h1 : K_1 X T B n f) (h4 : K_4 X T B n f) : K_4 X T B n (f + 1) := by
  intro d dp q i v3 S I hdp h hS hl hi
  have hq := h.2.1.1
  have hn := h.1.1
  obtain ⟨-, k2, k3⟩ := k_w X (d + 3 * (6 - dp) + 4) 33 66 (by decide) (by decide +kernel) (by decide +kernel) I T h
  show k_P I T B n S (if t_isW (t_w 66) B n q = true then _ else _) _
  rw [e_X5_readAny_127_37]
  by_cases c : t_isW (t_w 66) B n q = true
  · rw [if_pos c]
    obtain ⟨C, b1, b2, b3⟩ := k2 c
    have b1' : c_X10_takeWord_1 X (d + 3 * (6 - dp) + 6) (33 : UInt32) I T = z_r 1 C T := b1
    have hW := t_end_W (w := t_w 66) (by decide +kernel) c
    have l3 : (t_w 66).length = 2 := by decide +kernel
    have hg := t_scan_ge t_blk B n (q + (t_w 66).length)
    have hgt : q + 2 ≤ t_nx B n q := by rw [← hW.1]; unfold t_sk; omega
    have nl := b3.2.1.1
    have A := h1 d dp (t_nx B n q) (nI (i + 1)) S C hdp b3 (k_St_ta hS b2) (by omega)
    have e400 : nI (i + 1) < (400 : Int32) := nI_lt (b := 400) (by omega) (by omega)
    have st : q_bd (c_X10_takeWord_1 X (d + 3 * (6 - dp) + 6) 33 I T) (fun v h' => q_res X q_sb q_pg (d + 3 * (6 - dp) + 6) cd_X5_readAny 41 [some (.ref 127), some (.int (nI dp)), some (.int (nI i)), some (.int v3)] (v.toList ++ []) h') = c_X5_readAny_127_7 X (d + 3 * (6 - dp) + 6) (nI dp) (nI (i + 1)) 0 C T := by
      simp (disch := omega) only [e_X5_readAny_127_41, k_X5_readAny_127_41, b1', q_bd_l, z_ltT, z_ltF, z_eqT, z_eqF, z_ltlT, z_ltlF, z_lltT, z_lltF, z_eqlT, z_eqlF, z_in, z_k7, z_cl, z_lneg, z_llT, z_llF, z_s1, z_nI_cl, z_nlt0, z_ne_m1, z_b0, z_b1, z_la, z_al, z_lm, z_ml, z_nm, nI_add, pk_mul, ↓reduceIte, not_true_eq_false, not_false_eq_true, true_or, or_true, false_or, or_false, true_and, and_true, and_false, false_and, Classical.not_not, Nat.add_zero, z_01, z_em, z_bit_p, Nat.not_le, Nat.not_lt, reduceCtorEq, if_true, if_false]
      rw [e_X5_readAny_127_2, if_pos e400]
    rw [st]
    cases ha : P_e B n f 1 dp (t_nx B n q) with
    | none => exact ⟨fun v h => (by cases h), fun e h => (by cases h)⟩
    | some ra =>
      cases ra with
      | error e =>
        refine ⟨fun v h => (by cases h), fun e' h => ?_⟩
        cases h
        obtain ⟨J, j1, j2, j3⟩ := A.2 e ha
        exact ⟨J, j1, j2, z_fr_t (z_lr_ta b2) j3⟩
      | ok a =>
        have w := (P_e_w B n f dp _ a hdp).2.1 ha
        obtain ⟨J, k, j1, j2, j3, j4⟩ := A.1 a ha
        have la : a.2.1.length ≤ a.1 - t_nx B n q + 1 := w.2.2.2.1
        have pa : t_nx B n q < a.1 := w.1
        have aq := j2.2.1.1
        obtain ⟨E, e1, e2, e3, e4⟩ := k_add X (d + 3 * (6 - dp) + 5) J T 1206 j3 (by rw [List.length_append]; omega) j2
        have nx := h4 d dp a.1 (i + 1) k (S ++ a.2.1 ++ [1206]) E hdp e3 e4 (by rw [List.length_append, List.length_append]; show S.length + a.2.1.length + 1 ≤ _; omega) (by omega)
        have st2 : c_X5_readAny_127_31 X (d + 3 * (6 - dp) + 6) (nI dp) (nI (i + 1)) k J T = c_X5_readAny_127_37 X (d + 3 * (6 - dp) + 6) (nI dp) (nI (i + 1)) k E T := by
          rw [e_X5_readAny_127_31]
          simp (disch := omega) only [k_X5_readAny_127_37, e1, q_bd_l, z_ltT, z_ltF, z_eqT, z_eqF, z_ltlT, z_ltlF, z_lltT, z_lltF, z_eqlT, z_eqlF, z_in, z_k7, z_cl, z_lneg, z_llT, z_llF, z_s1, z_nI_cl, z_nlt0, z_ne_m1, z_b0, z_b1, z_la, z_al, z_lm, z_ml, z_nm, nI_add, pk_mul, ↓reduceIte, not_true_eq_false, not_false_eq_true, true_or, or_true, false_or, or_false, true_and, and_true, and_false, false_and, Classical.not_not, Nat.add_zero, z_01, z_em, z_bit_p, Nat.not_le, Nat.not_lt, reduceCtorEq, if_true, if_false]
        rw [j1]
        dsimp only
        rw [st2]
        show k_P I T B n S (p_bd (P_e B n f 4 dp a.1) _) _
        have fE : z_fr m_lr I E := z_fr_t (z_lr_ta b2) (z_fr_t j4 e2)
        cases ht : P_e B n f 4 dp a.1 with
        | none => exact ⟨fun v h => (by cases h), fun e h => (by cases h)⟩
        | some rb =>
          cases rb with
          | error e =>
            refine ⟨fun v h => (by cases h), fun e' h => ?_⟩
            cases h
            obtain ⟨K, k1, k2, k3⟩ := nx.2 e ht
            exact ⟨K, k1, k2, z_fr_t fE k3⟩
          | ok b =>
            refine ⟨fun v h => ?_, fun e h => (by cases h)⟩
            cases h
            obtain ⟨K, k1, k2, k3, k4⟩ := nx.1 b ht
            refine ⟨K, k1, k2, ?_, z_fr_t fE k4⟩
            have ea : S ++ a.2.1 ++ [1206] ++ b.2.1 = S ++ (a.2.1 ++ 1206 :: b.2.1) := by simp
            rw [ea] at k3
            exact k3
  · rw [if_neg c]
    obtain ⟨C, b1, b2, b3⟩ := k3 c
    have b1' : c_X10_takeWord_1 X (d + 3 * (6 - dp) + 6) (33 : UInt32) I T = z_r 0 C T := b1
    refine ⟨fun v h => ?_, fun e h => (by cases h)⟩
    cases h
    refine ⟨C, ?_, b3, by rw [List.append_nil]; exact k_St_ta hS b2, z_lr_ta b2⟩
    simp (disch := omega) only [e_X5_readAny_127_41, k_X5_readAny_127_41, b1', q_bd_l, z_ltT, z_ltF, z_eqT, z_eqF, z_ltlT, z_ltlF, z_lltT, z_lltF, z_eqlT, z_eqlF, z_in, z_k7, z_cl, z_lneg, z_llT, z_llF, z_s1, z_nI_cl, z_nlt0, z_ne_m1, z_b0, z_b1, z_la, z_al, z_lm, z_ml, z_nm, nI_add, pk_mul, ↓reduceIte, not_true_eq_false, not_false_eq_true, true_or, or_true, false_or, or_false, true_and, and_true, and_false, false_and, Classical.not_not, Nat.add_zero, z_01, z_em, z_bit_p, Nat.not_le, Nat.not_lt, reduceCtorEq, if_true, if_false]
theorem K_2_s {X : Sx} {T : Tt} {B : Nat → Nat} {n f : Nat} (h1 : K_1 X T B n f) (h4 : K_4 X T B n f) : K_2 X T B n (f + 1) := by
  intro d dp p S I hdp h hS hl
  have A := h1 d dp p 0 S I hdp h hS hl
  have st : c_X5_readAny_127 X (d + 3 * (6 - dp) + 7) (nI dp) I T = c_X5_readAny_127_7 X (d + 3 * (6 - dp) + 6) (nI dp) 0 0 I T := by
    rw [e_X5_readAny_127, e_X5_readAny_127_2, if_pos (by decide)]
  rw [st]
  show k_P I T B n S (p_bd (P_e B n f 1 dp p) _) _
  cases ha : P_e B n f 1 dp p with
  | none => exact ⟨fun v h => (by cases h), fun e h => (by cases h)⟩
  | some ra =>
    cases ra with
    | error e =>
      refine ⟨fun v h => (by cases h), fun e' h => ?_⟩
      cases h
      exact A.2 e ha
    | ok a =>
      have w := (P_e_w B n f dp _ a hdp).2.1 ha
      obtain ⟨J, k, j1, j2, j3, j4⟩ := A.1 a ha
      have la : a.2.1.length ≤ a.1 - p + 1 := w.2.2.2.1
      have pa : p < a.1 := w.1
      have nx := h4 d dp a.1 0 k (S ++ a.2.1) J hdp j2 j3 (by rw [List.length_append]; omega) (by omega)
      have st2 : c_X5_readAny_127_31 X (d + 3 * (6 - dp) + 6) (nI dp) 0 k J T = c_X5_readAny_127_37 X (d + 3 * (6 - dp) + 6) (nI dp) (nI 0) k J T := by
        rw [e_X5_readAny_127_31, if_neg (by decide)]
        rfl
      rw [j1]
      dsimp only
      rw [st2]
      show k_P I T B n S (p_bd (P_e B n f 4 dp a.1) _) _
      cases ht : P_e B n f 4 dp a.1 with
      | none => exact ⟨fun v h => (by cases h), fun e h => (by cases h)⟩
      | some rb =>
        cases rb with
        | error e =>
          refine ⟨fun v h => (by cases h), fun e' h => ?_⟩
          cases h
          obtain ⟨K, k1, k2, k3⟩ := nx.2 e ht
          exact ⟨K, k1, k2, z_fr_t j4 k3⟩
        | ok b =>
          refine ⟨fun v h => ?_, fun e h => (by cases h)⟩
          cases h
          obtain ⟨K, k1, k2, k3, k4⟩ := nx.1 b ht
          refine ⟨K, k1, k2, ?_, z_fr_t j4 k4⟩
          rw [List.append_assoc] at k3
          exact k3
theorem K_A_s {X : Sx} {T : Tt} {B : Nat → Nat} {n f : Nat} (hA : K_A X T B n f) (h2 : K_2 X T B n f) : K_A X T B n (f + 1) := by
  intro d dp p S I hdp h hS hl
  have hq := h.2.1.1
  have hn := h.1.1
  obtain ⟨w1, -⟩ := k_w X (d + 3 * (6 - dp) + 4) 34 64 (by decide) (by decide +kernel) (by decide +kernel) I T h
  have w1' : c_X10_isWord_1 X (d + 3 * (6 - dp) + 5) (34 : UInt32) I T = _ := w1
  have s40 := k_isSign X (d + 3 * (6 - dp) + 3) 40 (by decide) rfl rfl I T h
  have s40' : c_X10_isSign_1 X (d + 3 * (6 - dp) + 5) 40 I T = _ := s40
  rw [e_X5_readAtom_127, w1']
  show k_P I T B n S (if t_isW (t_w 64) B n p = true then _ else if t_isS 40 B n p = true then _ else _) _
  by_cases c : t_isW (t_w 64) B n p = true
  · rw [if_pos c]
    by_cases c6 : dp = 6
    · rw [if_pos c6]
      subst c6
      refine ⟨fun v h => (by cases h), fun e' h' => ?_⟩
      cases h'
      refine ⟨I, ?_, h, z_fr_r _ _⟩
      simp (disch := omega) only [e_X5_readAtom_127_4, k_X5_readAtom_127_4, e_X5_readAtom_127_10, e_X5_readAtom_127_21, c, z_b, q_bd_l, z_ltT, z_ltF, z_eqT, z_eqF, z_ltlT, z_ltlF, z_lltT, z_lltF, z_eqlT, z_eqlF, z_in, z_k7, z_cl, z_lneg, z_llT, z_llF, z_s1, z_nI_cl, z_nlt0, z_ne_m1, z_b0, z_b1, z_la, z_al, z_lm, z_ml, z_nm, nI_add, pk_mul, ↓reduceIte, not_true_eq_false, not_false_eq_true, true_or, or_true, false_or, or_false, true_and, and_true, and_false, false_and, Classical.not_not, Nat.add_zero, z_01, z_em, z_bit_p, Nat.not_le, Nat.not_lt, reduceCtorEq, if_true, if_false]
    · rw [if_neg c6]
      have hW := t_end_W (w := t_w 64) (by decide +kernel) c
      have l3 : (t_w 64).length = 3 := by decide +kernel
      have hg := t_scan_ge t_blk B n (p + (t_w 64).length)
      have hgt : p + 3 ≤ t_nx B n p := by rw [← hW.1]; unfold t_sk; omega
      have nS : ¬ t_isS 40 B n p = true := by
        intro cS
        rw [t_isS_p] at cS
        rw [t_isW_p] at c
        obtain ⟨-, u2, -⟩ := t_scan_in (P := t_let) (B := B) (n := n) (p := p) (q := p) (Nat.le_refl _) (by omega)
        rw [t_let_p] at u2
        omega
      obtain ⟨C, b1, b2, b3, -⟩ := k_takeSign X (d + 3 * (6 - dp) + 1) 40 (by decide) rfl rfl I T h
      rw [z_b, if_neg nS] at b1
      rw [if_neg nS] at b3
      have b1' : c_X10_takeSign_1 X (d + 3 * (6 - dp) + 4) 40 I T = z_r 0 C T := b1
      obtain ⟨E, e1, e2, e3, -⟩ := k_stepR X (d + 3 * (6 - dp) + 3) C T b3
      have nl := e3.2.1.1
      have hSE := k_St_ta (k_St_ta hS b2) e2
      have A := hA (d + 1) (dp + 1) (t_nx B n p) S E (by omega) e3 hSE (by omega)
      rw [show d + 1 + 3 * (6 - (dp + 1)) + 6 = d + 3 * (6 - dp) + 4 from by omega] at A
      have ed : nI dp < (6 : Int32) := nI_lt (b := 6) (by omega) (by omega)
      have st : q_bd (z_r (z_b (t_isW (t_w 64) B n p = true)) I T) (fun v h' => q_res X q_sb q_pg (d + 3 * (6 - dp) + 5) cd_X5_readAtom 4 [some (.ref 127), some (.int (nI dp)), none, none] (v.toList ++ []) h') = q_bd (q_bd (c_X5_readAtom_127 X (d + 3 * (6 - dp) + 4) (nI (dp + 1)) E T) (fun v h' => q_res X q_sb q_pg (d + 3 * (6 - dp) + 4) cd_X5_readDeeper 24 [some (.ref 127), some (.int (nI (dp + 1)))] (v.toList ++ []) h')) (fun v h' => q_res X q_sb q_pg (d + 3 * (6 - dp) + 5) cd_X5_readAtom 18 [some (.ref 127), some (.int (nI dp)), none, none] (v.toList ++ []) h') := by
        simp (disch := omega) only [e_X5_readAtom_127_4, k_X5_readAtom_127_4, e_X5_readAtom_127_10, e_X5_readDeeper_127, e_X5_readDeeper_127_4, k_X5_readDeeper_127_4, e_X5_readDeeper_127_21, k_X5_readDeeper_127_21, c, z_b, ed, b1', e1, q_bd_l, z_ltT, z_ltF, z_eqT, z_eqF, z_ltlT, z_ltlF, z_lltT, z_lltF, z_eqlT, z_eqlF, z_in, z_k7, z_cl, z_lneg, z_llT, z_llF, z_s1, z_nI_cl, z_nlt0, z_ne_m1, z_b0, z_b1, z_la, z_al, z_lm, z_ml, z_nm, nI_add, pk_mul, ↓reduceIte, not_true_eq_false, not_false_eq_true, true_or, or_true, false_or, or_false, true_and, and_true, and_false, false_and, Classical.not_not, Nat.add_zero, z_01, z_em, z_bit_p, Nat.not_le, Nat.not_lt, reduceCtorEq, if_true, if_false]
      rw [st]
      have fE : z_fr m_lr I E := z_lr_ta (z_fr_t b2 e2)
      cases ha : P_e B n f 0 (dp + 1) (t_nx B n p) with
      | none => exact ⟨fun v h => (by cases h), fun e h => (by cases h)⟩
      | some ra =>
        cases ra with
        | error e =>
          refine ⟨fun v h => (by cases h), fun e' h => ?_⟩
          cases h
          obtain ⟨J, j1, j2, j3⟩ := A.2 e ha
          refine ⟨J, ?_, j2, z_fr_t fE j3⟩
          rw [j1]
          simp (disch := omega) only [e_X5_readDeeper_127_24, k_X5_readDeeper_127_24, e_X5_readAtom_127_18, k_X5_readAtom_127_18, e_X5_readAtom_127_21, q_bd_l, z_ltT, z_ltF, z_eqT, z_eqF, z_ltlT, z_ltlF, z_lltT, z_lltF, z_eqlT, z_eqlF, z_in, z_k7, z_cl, z_lneg, z_llT, z_llF, z_s1, z_nI_cl, z_nlt0, z_ne_m1, z_b0, z_b1, z_la, z_al, z_lm, z_ml, z_nm, nI_add, pk_mul, ↓reduceIte, not_true_eq_false, not_false_eq_true, true_or, or_true, false_or, or_false, true_and, and_true, and_false, false_and, Classical.not_not, Nat.add_zero, z_01, z_em, z_bit_p, Nat.not_le, Nat.not_lt, reduceCtorEq, if_true, if_false]
        | ok a =>
          have w := (P_e_w B n f (dp + 1) _ a (by omega)).1 ha
          obtain ⟨J, j1, j2, j3, j4⟩ := A.1 a ha
          have la : a.2.1.length ≤ a.1 - t_nx B n p + 1 := w.2.2.2.1
          have pa : t_nx B n p < a.1 := w.1
          have aq := j2.2.1.1
          obtain ⟨G, g1, g2, g3, g4⟩ := k_add X (d + 3 * (6 - dp) + 3) J T 1204 j3 (by rw [List.length_append]; omega) j2
          refine ⟨fun v h => ?_, fun e h => (by cases h)⟩
          cases h
          refine ⟨G, ?_, g3, ?_, z_fr_t fE (z_fr_t j4 g2)⟩
          · rw [j1]
            simp (disch := omega) only [e_X5_readDeeper_127_24, k_X5_readDeeper_127_24, e_X5_readDeeper_127_31, k_X5_readDeeper_127_31, e_X5_readAtom_127_18, k_X5_readAtom_127_18, g1, q_bd_l, z_ltT, z_ltF, z_eqT, z_eqF, z_ltlT, z_ltlF, z_lltT, z_lltF, z_eqlT, z_eqlF, z_in, z_k7, z_cl, z_lneg, z_llT, z_llF, z_s1, z_nI_cl, z_nlt0, z_ne_m1, z_b0, z_b1, z_la, z_al, z_lm, z_ml, z_nm, nI_add, pk_mul, ↓reduceIte, not_true_eq_false, not_false_eq_true, true_or, or_true, false_or, or_false, true_and, and_true, and_false, false_and, Classical.not_not, Nat.add_zero, z_01, z_em, z_bit_p, Nat.not_le, Nat.not_lt, reduceCtorEq, if_true, if_false]
          · rw [List.append_assoc] at g4
            exact g4
  rw [if_neg c]
  by_cases cS : t_isS 40 B n p = true
  · rw [if_pos cS]
    by_cases c6 : dp = 6
    · rw [if_pos c6]
      subst c6
      refine ⟨fun v h => (by cases h), fun e' h' => ?_⟩
      cases h'
      refine ⟨I, ?_, h, z_fr_r _ _⟩
      simp (disch := omega) only [e_X5_readAtom_127_4, k_X5_readAtom_127_4, e_X5_readAtom_127_9, k_X5_readAtom_127_9, e_X5_readAtom_127_10, e_X5_readAtom_127_21, c, z_b, s40', cS, q_bd_l, z_ltT, z_ltF, z_eqT, z_eqF, z_ltlT, z_ltlF, z_lltT, z_lltF, z_eqlT, z_eqlF, z_in, z_k7, z_cl, z_lneg, z_llT, z_llF, z_s1, z_nI_cl, z_nlt0, z_ne_m1, z_b0, z_b1, z_la, z_al, z_lm, z_ml, z_nm, nI_add, pk_mul, ↓reduceIte, not_true_eq_false, not_false_eq_true, true_or, or_true, false_or, or_false, true_and, and_true, and_false, false_and, Classical.not_not, Nat.add_zero, z_01, z_em, z_bit_p, Nat.not_le, Nat.not_lt, reduceCtorEq, if_true, if_false]
    · rw [if_neg c6]
      have hnx := t_isS_nx cS
      obtain ⟨C, b1, b2, b3, -⟩ := k_takeSign X (d + 3 * (6 - dp) + 1) 40 (by decide) rfl rfl I T h
      rw [z_b, if_pos cS] at b1
      rw [if_pos cS] at b3
      have b1' : c_X10_takeSign_1 X (d + 3 * (6 - dp) + 4) 40 I T = z_r 1 C T := b1
      have hSC := k_St_ta hS b2
      have A := h2 d (dp + 1) (t_nx B n p) S C (by omega) b3 hSC (by omega)
      rw [show d + 3 * (6 - (dp + 1)) + 7 = d + 3 * (6 - dp) + 4 from by omega] at A
      have ed : nI dp < (6 : Int32) := nI_lt (b := 6) (by omega) (by omega)
      have st : q_bd (z_r (z_b (t_isW (t_w 64) B n p = true)) I T) (fun v h' => q_res X q_sb q_pg (d + 3 * (6 - dp) + 5) cd_X5_readAtom 4 [some (.ref 127), some (.int (nI dp)), none, none] (v.toList ++ []) h') = q_bd (q_bd (c_X5_readAny_127 X (d + 3 * (6 - dp) + 4) (nI (dp + 1)) C T) (fun v h' => q_res X q_sb q_pg (d + 3 * (6 - dp) + 4) cd_X5_readDeeper 8 [some (.ref 127), some (.int (nI (dp + 1)))] (v.toList ++ []) h')) (fun v h' => q_res X q_sb q_pg (d + 3 * (6 - dp) + 5) cd_X5_readAtom 18 [some (.ref 127), some (.int (nI dp)), none, none] (v.toList ++ []) h') := by
        simp (disch := omega) only [e_X5_readAtom_127_4, k_X5_readAtom_127_4, e_X5_readAtom_127_9, k_X5_readAtom_127_9, e_X5_readAtom_127_10, e_X5_readDeeper_127, e_X5_readDeeper_127_4, k_X5_readDeeper_127_4, c, z_b, s40', cS, ed, b1', q_bd_l, z_ltT, z_ltF, z_eqT, z_eqF, z_ltlT, z_ltlF, z_lltT, z_lltF, z_eqlT, z_eqlF, z_in, z_k7, z_cl, z_lneg, z_llT, z_llF, z_s1, z_nI_cl, z_nlt0, z_ne_m1, z_b0, z_b1, z_la, z_al, z_lm, z_ml, z_nm, nI_add, pk_mul, ↓reduceIte, not_true_eq_false, not_false_eq_true, true_or, or_true, false_or, or_false, true_and, and_true, and_false, false_and, Classical.not_not, Nat.add_zero, z_01, z_em, z_bit_p, Nat.not_le, Nat.not_lt, reduceCtorEq, if_true, if_false]
      rw [st]
      have fC : z_fr m_lr I C := z_lr_ta b2
      cases ha : P_e B n f 2 (dp + 1) (t_nx B n p) with
      | none => exact ⟨fun v h => (by cases h), fun e h => (by cases h)⟩
      | some ra =>
        cases ra with
        | error e =>
          refine ⟨fun v h => (by cases h), fun e' h => ?_⟩
          cases h
          obtain ⟨J, j1, j2, j3⟩ := A.2 e ha
          refine ⟨J, ?_, j2, z_fr_t fC j3⟩
          rw [j1]
          simp (disch := omega) only [e_X5_readDeeper_127_8, k_X5_readDeeper_127_8, e_X5_readDeeper_127_16, e_X5_readAtom_127_18, k_X5_readAtom_127_18, e_X5_readAtom_127_21, q_bd_l, z_ltT, z_ltF, z_eqT, z_eqF, z_ltlT, z_ltlF, z_lltT, z_lltF, z_eqlT, z_eqlF, z_in, z_k7, z_cl, z_lneg, z_llT, z_llF, z_s1, z_nI_cl, z_nlt0, z_ne_m1, z_b0, z_b1, z_la, z_al, z_lm, z_ml, z_nm, nI_add, pk_mul, ↓reduceIte, not_true_eq_false, not_false_eq_true, true_or, or_true, false_or, or_false, true_and, and_true, and_false, false_and, Classical.not_not, Nat.add_zero, z_01, z_em, z_bit_p, Nat.not_le, Nat.not_lt, reduceCtorEq, if_true, if_false]
        | ok a =>
          obtain ⟨J, j1, j2, j3, j4⟩ := A.1 a ha
          obtain ⟨G, g1, g2, g3, -⟩ := k_takeSign X (d + 3 * (6 - dp) + 1) 41 (by decide) rfl rfl J T j2
          have g1' : c_X10_takeSign_1 X (d + 3 * (6 - dp) + 4) 41 J T = _ := g1
          rw [j1]
          show k_P I T B n S (if t_isS 41 B n a.1 = true then _ else _) _
          by_cases cR : t_isS 41 B n a.1 = true
          · rw [if_pos cR]
            rw [z_b, if_pos cR] at g1'
            rw [if_pos cR] at g3
            refine ⟨fun v h => ?_, fun e h => (by cases h)⟩
            cases h
            refine ⟨G, ?_, g3, k_St_ta j3 g2, z_fr_t fC (z_fr_t j4 (z_lr_ta g2))⟩
            simp (disch := omega) only [e_X5_readDeeper_127_8, k_X5_readDeeper_127_8, e_X5_readDeeper_127_13, k_X5_readDeeper_127_13, e_X5_readDeeper_127_16, e_X5_readAtom_127_18, k_X5_readAtom_127_18, g1', q_bd_l, z_ltT, z_ltF, z_eqT, z_eqF, z_ltlT, z_ltlF, z_lltT, z_lltF, z_eqlT, z_eqlF, z_in, z_k7, z_cl, z_lneg, z_llT, z_llF, z_s1, z_nI_cl, z_nlt0, z_ne_m1, z_b0, z_b1, z_la, z_al, z_lm, z_ml, z_nm, nI_add, pk_mul, ↓reduceIte, not_true_eq_false, not_false_eq_true, true_or, or_true, false_or, or_false, true_and, and_true, and_false, false_and, Classical.not_not, Nat.add_zero, z_01, z_em, z_bit_p, Nat.not_le, Nat.not_lt, reduceCtorEq, if_true, if_false]
          · rw [if_neg cR]
            rw [z_b, if_neg cR] at g1'
            rw [if_neg cR] at g3
            refine ⟨fun v h => (by cases h), fun e h => ?_⟩
            cases h
            refine ⟨G, ?_, g3, z_fr_t fC (z_fr_t j4 (z_lr_ta g2))⟩
            simp (disch := omega) only [e_X5_readDeeper_127_8, k_X5_readDeeper_127_8, e_X5_readDeeper_127_13, k_X5_readDeeper_127_13, e_X5_readDeeper_127_16, e_X5_readAtom_127_18, k_X5_readAtom_127_18, e_X5_readAtom_127_21, g1', q_bd_l, z_ltT, z_ltF, z_eqT, z_eqF, z_ltlT, z_ltlF, z_lltT, z_lltF, z_eqlT, z_eqlF, z_in, z_k7, z_cl, z_lneg, z_llT, z_llF, z_s1, z_nI_cl, z_nlt0, z_ne_m1, z_b0, z_b1, z_la, z_al, z_lm, z_ml, z_nm, nI_add, pk_mul, ↓reduceIte, not_true_eq_false, not_false_eq_true, true_or, or_true, false_or, or_false, true_and, and_true, and_false, false_and, Classical.not_not, Nat.add_zero, z_01, z_em, z_bit_p, Nat.not_le, Nat.not_lt, reduceCtorEq, if_true, if_false]
  rw [if_neg cS]
  have pl := k_plain X (d + 3 * (6 - dp) + 1) I T (nI dp) (f := f) h hS hl
  have st : q_bd (z_r (z_b (t_isW (t_w 64) B n p = true)) I T) (fun v h' => q_res X q_sb q_pg (d + 3 * (6 - dp) + 5) cd_X5_readAtom 4 [some (.ref 127), some (.int (nI dp)), none, none] (v.toList ++ []) h') = c_X5_readAtom_127_9 X (d + 3 * (6 - dp) + 5) (nI dp) 0 I T := by
    simp (disch := omega) only [e_X5_readAtom_127_4, k_X5_readAtom_127_4, k_X5_readAtom_127_9, c, z_b, s40', cS, q_bd_l, z_ltT, z_ltF, z_eqT, z_eqF, z_ltlT, z_ltlF, z_lltT, z_lltF, z_eqlT, z_eqlF, z_in, z_k7, z_cl, z_lneg, z_llT, z_llF, z_s1, z_nI_cl, z_nlt0, z_ne_m1, z_b0, z_b1, z_la, z_al, z_lm, z_ml, z_nm, nI_add, pk_mul, ↓reduceIte, not_true_eq_false, not_false_eq_true, true_or, or_true, false_or, or_false, true_and, and_true, and_false, false_and, Classical.not_not, Nat.add_zero, z_01, z_em, z_bit_p, Nat.not_le, Nat.not_lt, reduceCtorEq, if_true, if_false]
  rw [st]
  exact pl
theorem K_all (X : Sx) (T : Tt) (B : Nat → Nat) (n : Nat) : ∀ f, K_A X T B n f ∧ K_1 X T B n f ∧ K_2 X T B n f ∧ K_3 X T B n f ∧ K_4 X T B n f := by
  intro f
  induction f with
  | zero =>
    refine ⟨fun d dp p S I _ _ _ _ => ⟨fun v h => (by cases h), fun e h => (by cases h)⟩, fun d dp p v2 S I _ _ _ _ => ⟨fun v h => (by cases h), fun e h => (by cases h)⟩, fun d dp p S I _ _ _ _ => ⟨fun v h => (by cases h), fun e h => (by cases h)⟩, fun d dp q i v2 S I _ _ _ _ _ => ⟨fun v h => (by cases h), fun e h => (by cases h)⟩, fun d dp q i v3 S I _ _ _ _ _ => ⟨fun v h => (by cases h), fun e h => (by cases h)⟩⟩
  | succ f ih =>
    obtain ⟨a, b, c, e, g⟩ := ih
    exact ⟨K_A_s a c, K_1_s a e, K_2_s b g, K_3_s a e, K_4_s b g⟩
