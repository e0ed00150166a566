/-! ===== THE CLASS READS THE LAW: sums, plain ATOMS ===== -/
theorem k_sumT (X : Sx) (d : Nat) (T : Tt) {B : Nat → Nat} {n : Nat} : ∀ (f q i : Nat) (o2 : Option Value) (S : List Int32) (I : Ii), z_Rd I B n q → k_St I S → S.length ≤ q → i + 2 ≤ q → k_P I T B n S (P_sumT B n f q) (c_X5_readSum_127_2 X (d + 3) (nI (i + 1)) o2 I T) := by
  intro f
  induction f with
  | zero => intro q i o2 S I _ _ _ _; exact ⟨fun v h => (by cases h), fun e h => (by cases h)⟩
  | succ f ih =>
    intro q i o2 S I h hS hl hi
    have hq := h.2.1.1
    have hn := h.1.1
    obtain ⟨A, a1, a2, a3, -⟩ := k_takeSign X d 43 (by decide) rfl rfl I T h
    have a1' : c_X10_takeSign_1 X (d + 3) 43 I T = _ := a1
    have hSA := k_St_ta hS a2
    unfold P_sumT
    by_cases c1 : t_isS 43 B n q = true
    · rw [if_pos c1]
      rw [z_b, if_pos c1] at a1'
      rw [if_pos c1] at a3
      have hs := t_isS_nx c1
      obtain ⟨p1, p2⟩ := k_part X d A T (i + 1) o2 a3 hSA (by omega)
      have st : c_X5_readSum_127_2 X (d + 3) (nI (i + 1)) o2 I T = c_X5_readSum_127_12 X (d + 3) (nI (i + 1)) o2 A T := by
        rw [e_X5_readSum_127_2]
        simp (disch := omega) only [e_X5_readSum_127_11, k_X5_readSum_127_11, a1', q_bd_l, z_ltT, z_ltF, z_eqT, z_eqF, z_ltlT, z_ltlF, z_lltT, z_lltF, z_eqlT, z_eqlF, z_in, z_k7, z_cl, z_lneg, z_llT, z_llF, z_s1, z_nI_cl, z_nlt0, z_ne_m1, z_b0, z_b1, z_la, z_al, z_lm, z_ml, z_nm, nI_add, pk_mul, ↓reduceIte, not_true_eq_false, not_false_eq_true, true_or, or_true, false_or, or_false, true_and, and_true, and_false, false_and, Classical.not_not, Nat.add_zero, z_01, z_em, z_bit_p, Nat.not_le, Nat.not_lt, reduceCtorEq, if_true, if_false]
      rw [st]
      cases hp : P_part B n (t_nx B n q) with
      | none => exact ⟨fun v h => (by cases h), fun e h => (by cases h)⟩
      | some ra =>
        cases ra with
        | error e =>
          refine ⟨fun v h => (by cases h), fun e' h => ?_⟩
          cases h
          obtain ⟨J, j1, j2, j3⟩ := p2 e hp
          exact ⟨J, j1, j2, z_fr_t (z_lr_ta a2) j3⟩
        | ok a =>
          have w := P_part_w hp
          obtain ⟨J, o, j1, j2, j3, j4⟩ := p1 a hp
          have nx := ih a.1 (i + 1) o (S ++ a.2.1) J j2 j3 (by rw [List.length_append]; have := w.2.2.1; have := w.1; omega) (by have := w.1; omega)
          rw [j1]
          show k_P I T B n S (p_bd (P_sumT B n f a.1) _) _
          cases ht : P_sumT B n f a.1 with
          | none => exact ⟨fun v h => (by cases h), fun e h => (by cases h)⟩
          | some rb =>
            cases rb with
            | error e =>
              refine ⟨fun v h => (by cases h), fun e' h => ?_⟩
              cases h
              obtain ⟨K, k1, k2, k3⟩ := nx.2 e ht
              exact ⟨K, k1, k2, z_fr_t (z_lr_ta a2) (z_fr_t j4 k3)⟩
            | ok b =>
              refine ⟨fun v h => ?_, fun e h => (by cases h)⟩
              cases h
              obtain ⟨K, k1, k2, k3, k4⟩ := nx.1 b ht
              refine ⟨K, k1, k2, ?_, z_fr_t (z_lr_ta a2) (z_fr_t j4 k4)⟩
              rw [List.append_assoc] at k3
              exact k3
    · rw [if_neg c1]
      rw [z_b, if_neg c1] at a1'
      rw [if_neg c1] at a3
      refine ⟨fun v h => ?_, fun e h => (by cases h)⟩
      cases h
      refine ⟨A, ?_, a3, by rw [List.append_nil]; exact hSA, z_lr_ta a2⟩
      rw [e_X5_readSum_127_2]
      simp (disch := omega) only [e_X5_readSum_127_11, k_X5_readSum_127_11, e_X5_readSum_127_45, a1', q_bd_l, z_ltT, z_ltF, z_eqT, z_eqF, z_ltlT, z_ltlF, z_lltT, z_lltF, z_eqlT, z_eqlF, z_in, z_k7, z_cl, z_lneg, z_llT, z_llF, z_s1, z_nI_cl, z_nlt0, z_ne_m1, z_b0, z_b1, z_la, z_al, z_lm, z_ml, z_nm, nI_add, pk_mul, ↓reduceIte, not_true_eq_false, not_false_eq_true, true_or, or_true, false_or, or_false, true_and, and_true, and_false, false_and, Classical.not_not, Nat.add_zero, z_01, z_em, z_bit_p, Nat.not_le, Nat.not_lt, reduceCtorEq, if_true, if_false]
theorem k_sum (X : Sx) (d : Nat) (I : Ii) (T : Tt) {B : Nat → Nat} {n p f : Nat} {S : List Int32} (h : z_Rd I B n p) (hS : k_St I S) (hl : S.length + 1 ≤ p) : k_P I T B n S (P_sum B n f p) (c_X5_readSum_127 X (d + 4) I T) := by
  have hq := h.2.1.1
  have hn := h.1.1
  obtain ⟨p1, p2⟩ := k_part X d I T 0 none h hS (by omega)
  have st : c_X5_readSum_127 X (d + 4) I T = c_X5_readSum_127_12 X (d + 3) (nI 0) none I T := by
    rw [e_X5_readSum_127, e_X5_readSum_127_2]
    rfl
  rw [st]
  unfold P_sum
  cases hp : P_part B n p with
  | none => exact ⟨fun v h => (by cases h), fun e h => (by cases h)⟩
  | some ra =>
    cases ra with
    | error e =>
      refine ⟨fun v h => (by cases h), fun e' h => ?_⟩
      cases h
      exact p2 e hp
    | ok a =>
      have w := P_part_w hp
      obtain ⟨J, o, j1, j2, j3, j4⟩ := p1 a hp
      have nx := k_sumT X d T f a.1 0 o (S ++ a.2.1) J j2 j3 (by rw [List.length_append]; have := w.2.2.1; have := w.1; omega) (by have := w.1; omega)
      rw [j1]
      show k_P I T B n S (p_bd (P_sumT B n f a.1) _) _
      cases ht : P_sumT B n f a.1 with
      | none => exact ⟨fun v h => (by cases h), fun e h => (by cases h)⟩
      | some rb =>
        cases rb with
        | error e =>
          refine ⟨fun v h => (by cases h), fun e' h => ?_⟩
          cases h
          obtain ⟨K, k1, k2, k3⟩ := nx.2 e ht
          exact ⟨K, k1, k2, z_fr_t j4 k3⟩
        | ok b =>
          refine ⟨fun v h => ?_, fun e h => (by cases h)⟩
          cases h
          obtain ⟨K, k1, k2, k3, k4⟩ := nx.1 b ht
          refine ⟨K, k1, k2, ?_, z_fr_t j4 k4⟩
          rw [List.append_assoc] at k3
          exact k3
theorem k_plain (X : Sx) (d : Nat) (I : Ii) (T : Tt) (v1 : Int32) {B : Nat → Nat} {n p f : Nat} {S : List Int32} (h : z_Rd I B n p) (hS : k_St I S) (hl : S.length + 1 ≤ p) : k_P I T B n S (P_plain B n f p) (c_X5_readAtom_127_9 X (d + 4) v1 0 I T) := by
  have hq := h.2.1.1
  have hn := h.1.1
  obtain ⟨L, l1, l2, l3, -⟩ := k_takeLiquid X (d + 1) I T h
  rw [t_liq_c] at l1 l3
  have hlq := c_lq_le B n p
  have hSL := k_St_ta hS l2
  rw [e_X5_readAtom_127_9]
  have liq : ∀ k, c_lq B n p = k → k < 3 → ∃ J, (if (0 : Int32) = 0 then q_bd (c_X10_takeLiquid_1 X (d + 4) I T) (fun v h' => q_res X q_sb q_pg (d + 4) cd_X5_readAtom 26 [some (.ref 127), some (.int v1), none, none] (v.toList ++ []) h') else c_X5_readAtom_127_10 X (d + 4) v1 I T) = z_r 1 J T ∧ z_Rd J B n (t_nx B n p) ∧ k_St J (S ++ [nI (1100 + k)]) ∧ z_fr m_lr I J := by
    intro k hk h3
    rw [hk, if_pos h3] at l1 l3
    obtain ⟨J, j1, j2, j3, j4⟩ := k_add X (d + 3) L T (nI (1100 + k)) hSL (by omega) l3
    refine ⟨J, ?_, j3, j4, z_fr_t (z_lr_ta l2) j2⟩
    simp (disch := omega) only [e_X5_readAtom_127_26, k_X5_readAtom_127_26, e_X5_readAtom_127_36, k_X5_readAtom_127_36, l1, j1, q_bd_l, z_ltT, z_ltF, z_eqT, z_eqF, z_ltlT, z_ltlF, z_lltT, z_lltF, z_eqlT, z_eqlF, z_in, z_k7, z_cl, z_lneg, z_llT, z_llF, z_s1, z_nI_cl, z_nlt0, z_ne_m1, z_b0, z_b1, z_la, z_al, z_lm, z_ml, z_nm, nI_add, pk_mul, ↓reduceIte, not_true_eq_false, not_false_eq_true, true_or, or_true, false_or, or_false, true_and, and_true, and_false, false_and, Classical.not_not, Nat.add_zero, z_01, z_em, z_bit_p, Nat.not_le, Nat.not_lt, reduceCtorEq, if_true, if_false]
  unfold P_plain
  by_cases c0 : t_isW (t_w 45) B n p = true
  · rw [if_pos c0]
    refine ⟨fun v hv => ?_, fun e he => (by cases he)⟩
    cases hv
    exact liq 0 (by unfold c_lq; rw [if_pos c0]) (by omega)
  rw [if_neg c0]
  by_cases c1 : t_isW (t_w 46) B n p = true
  · rw [if_pos c1]
    refine ⟨fun v hv => ?_, fun e he => (by cases he)⟩
    cases hv
    exact liq 1 (by unfold c_lq; rw [if_neg c0, if_pos c1]) (by omega)
  rw [if_neg c1]
  by_cases c2 : t_isW (t_w 47) B n p = true
  · rw [if_pos c2]
    refine ⟨fun v hv => ?_, fun e he => (by cases he)⟩
    cases hv
    exact liq 2 (by unfold c_lq; rw [if_neg c0, if_neg c1, if_pos c2]) (by omega)
  rw [if_neg c2]
  have cl : c_lq B n p = 3 := by unfold c_lq; rw [if_neg c0, if_neg c1, if_neg c2]
  rw [cl, if_neg (by omega)] at l1 l3
  obtain ⟨-, k2, k3⟩ := k_w X (d + 2) 35 63 (by decide) (by decide +kernel) (by decide +kernel) L T l3
  by_cases c3 : t_isW (t_w 63) B n p = true
  · rw [if_pos c3]
    obtain ⟨A, a1, a2, a3⟩ := k2 c3
    have a1' : c_X10_takeWord_1 X (d + 4) (35 : UInt32) L T = z_r 1 A T := a1
    obtain ⟨J, j1, j2, j3, j4⟩ := k_add X (d + 3) A T 1200 (k_St_ta hSL a2) (by omega) a3
    refine ⟨fun v hv => ?_, fun e he => (by cases he)⟩
    cases hv
    refine ⟨J, ?_, j3, j4, z_fr_t (z_lr_ta (z_fr_t l2 a2)) j2⟩
    simp (disch := omega) only [e_X5_readAtom_127_26, k_X5_readAtom_127_26, e_X5_readAtom_127_42, k_X5_readAtom_127_42, e_X5_readAtom_127_47, k_X5_readAtom_127_47, l1, a1', j1, q_bd_l, z_ltT, z_ltF, z_eqT, z_eqF, z_ltlT, z_ltlF, z_lltT, z_lltF, z_eqlT, z_eqlF, z_in, z_k7, z_cl, z_lneg, z_llT, z_llF, z_s1, z_nI_cl, z_nlt0, z_ne_m1, z_b0, z_b1, z_la, z_al, z_lm, z_ml, z_nm, nI_add, pk_mul, ↓reduceIte, not_true_eq_false, not_false_eq_true, true_or, or_true, false_or, or_false, true_and, and_true, and_false, false_and, Classical.not_not, Nat.add_zero, z_01, z_em, z_bit_p, Nat.not_le, Nat.not_lt, reduceCtorEq, if_true, if_false]
  rw [if_neg c3]
  obtain ⟨A, a1, a2, a3⟩ := k3 c3
  have a1' : c_X10_takeWord_1 X (d + 4) (35 : UInt32) L T = z_r 0 A T := a1
  have hSA := k_St_ta hSL a2
  have fA := z_lr_ta (z_fr_t l2 a2)
  have sm := k_sum X d A T (f := f) a3 hSA hl
  have st : (if (0 : Int32) = 0 then q_bd (c_X10_takeLiquid_1 X (d + 4) I T) (fun v h' => q_res X q_sb q_pg (d + 4) cd_X5_readAtom 26 [some (.ref 127), some (.int v1), none, none] (v.toList ++ []) h') else c_X5_readAtom_127_10 X (d + 4) v1 I T) = q_bd (c_X5_readSum_127 X (d + 4) A T) (fun v h' => q_res X q_sb q_pg (d + 4) cd_X5_readAtom 51 [some (.ref 127), some (.int v1), some (.int (-1)), none] (v.toList ++ []) h') := by
    simp (disch := omega) only [e_X5_readAtom_127_26, k_X5_readAtom_127_26, e_X5_readAtom_127_42, k_X5_readAtom_127_42, l1, a1', q_bd_l, z_ltT, z_ltF, z_eqT, z_eqF, z_ltlT, z_ltlF, z_lltT, z_lltF, z_eqlT, z_eqlF, z_in, z_k7, z_cl, z_lneg, z_llT, z_llF, z_s1, z_nI_cl, z_nlt0, z_ne_m1, z_b0, z_b1, z_la, z_al, z_lm, z_ml, z_nm, nI_add, pk_mul, ↓reduceIte, not_true_eq_false, not_false_eq_true, true_or, or_true, false_or, or_false, true_and, and_true, and_false, false_and, Classical.not_not, Nat.add_zero, z_01, z_em, z_bit_p, Nat.not_le, Nat.not_lt, reduceCtorEq, if_true, if_false]
  rw [st]
  cases hs1 : P_sum B n f p with
  | none => exact ⟨fun v h => (by cases h), fun e h => (by cases h)⟩
  | some ra =>
    cases ra with
    | error e =>
      refine ⟨fun v h => (by cases h), fun e' h => ?_⟩
      cases h
      obtain ⟨K, x1, x2, x3⟩ := sm.2 e hs1
      refine ⟨K, ?_, x2, z_fr_t fA x3⟩
      rw [x1]
      simp (disch := omega) only [e_X5_readAtom_127_51, k_X5_readAtom_127_51, q_bd_l, z_ltT, z_ltF, z_eqT, z_eqF, z_ltlT, z_ltlF, z_lltT, z_lltF, z_eqlT, z_eqlF, z_in, z_k7, z_cl, z_lneg, z_llT, z_llF, z_s1, z_nI_cl, z_nlt0, z_ne_m1, z_b0, z_b1, z_la, z_al, z_lm, z_ml, z_nm, nI_add, pk_mul, ↓reduceIte, not_true_eq_false, not_false_eq_true, true_or, or_true, false_or, or_false, true_and, and_true, and_false, false_and, Classical.not_not, Nat.add_zero, z_01, z_em, z_bit_p, Nat.not_le, Nat.not_lt, reduceCtorEq, if_true, if_false]
    | ok a =>
      have w := P_sum_w hs1
      obtain ⟨K, x1, x2, x3, x4⟩ := sm.1 a hs1
      have s60 := k_isSign X (d + 2) 60 (by decide) rfl rfl K T x2
      have s62 := k_isSign X (d + 2) 62 (by decide) rfl rfl K T x2
      have s60' : c_X10_isSign_1 X (d + 4) 60 K T = _ := s60
      have s62' : c_X10_isSign_1 X (d + 4) 62 K T = _ := s62
      have la : a.2.1.length ≤ a.1 - p := w.2.2.1
      have pa : p < a.1 := w.1
      have aq := x2.2.1.1
      rw [x1]
      show k_P I T B n S (if t_isS 60 B n a.1 = true then _ else if t_isS 62 B n a.1 = true then _ else p_er a.1) _
      -- behind the sign
      have rest : ∀ (v3 : Int32) (last : Int32), (v3 = 1 ∧ last = 1202) ∨ (v3 = 0 ∧ last = 1203) → a.1 < n → (∀ b, P_sum B n f (t_nx B n a.1) = some (.ok b) → ∃ J, c_X5_readAtom_127_68 X (d + 4) v1 (-1) v3 K T = z_r 1 J T ∧ z_Rd J B n b.1 ∧ k_St J (S ++ (a.2.1 ++ 1201 :: (b.2.1 ++ [last]))) ∧ z_fr m_lr I J) ∧ (∀ e, P_sum B n f (t_nx B n a.1) = some (.error e) → ∃ J, c_X5_readAtom_127_68 X (d + 4) v1 (-1) v3 K T = z_r 0 J T ∧ z_Rd J B n e ∧ z_fr m_lr I J) := by
        intro v3 last hv3 han
        obtain ⟨C, b1, b2, b3, -⟩ := k_stepR X (d + 3) K T x2
        have ng := t_nx_gt (B := B) han
        have nl := b3.2.1.1
        obtain ⟨E, e1, e2, e3, e4⟩ := k_add X (d + 3) C T 1201 (k_St_ta x3 b2) (by rw [List.length_append]; omega) b3
        have sm2 := k_sum X d E T (f := f) e3 e4 (by rw [List.length_append, List.length_append]; show S.length + a.2.1.length + 1 + 1 ≤ _; omega)
        have fE : z_fr m_lr I E := z_fr_t fA (z_fr_t x4 (z_fr_t (z_lr_ta b2) e2))
        rw [e_X5_readAtom_127_68]
        refine ⟨fun b hb => ?_, fun e he => ?_⟩
        · have wb := P_sum_w hb
          obtain ⟨M, m1, m2, m3, m4⟩ := sm2.1 b hb
          have lb : b.2.1.length ≤ b.1 - t_nx B n a.1 := wb.2.2.1
          have pb : t_nx B n a.1 < b.1 := wb.1
          have bq := m2.2.1.1
          obtain ⟨J, j1, j2, j3, j4⟩ := k_add X (d + 3) M T last m3 (by rw [List.length_append, List.length_append, List.length_append]; show S.length + a.2.1.length + 1 + b.2.1.length < 400; omega) m2
          refine ⟨J, ?_, j3, ?_, z_fr_t fE (z_fr_t m4 j2)⟩
          · rcases hv3 with ⟨rfl, rfl⟩ | ⟨rfl, rfl⟩
            · simp (disch := omega) only [e_X5_readAtom_127_71, k_X5_readAtom_127_71, e_X5_readAtom_127_75, k_X5_readAtom_127_75, e_X5_readAtom_127_77, k_X5_readAtom_127_77, e_X5_readAtom_127_87, e_X5_readAtom_127_88, k_X5_readAtom_127_88, b1, e1, m1, j1, q_bd_l, z_ltT, z_ltF, z_eqT, z_eqF, z_ltlT, z_ltlF, z_lltT, z_lltF, z_eqlT, z_eqlF, z_in, z_k7, z_cl, z_lneg, z_llT, z_llF, z_s1, z_nI_cl, z_nlt0, z_ne_m1, z_b0, z_b1, z_la, z_al, z_lm, z_ml, z_nm, nI_add, pk_mul, ↓reduceIte, not_true_eq_false, not_false_eq_true, true_or, or_true, false_or, or_false, true_and, and_true, and_false, false_and, Classical.not_not, Nat.add_zero, z_01, z_em, z_bit_p, Nat.not_le, Nat.not_lt, reduceCtorEq, if_true, if_false]
            · simp (disch := omega) only [e_X5_readAtom_127_71, k_X5_readAtom_127_71, e_X5_readAtom_127_75, k_X5_readAtom_127_75, e_X5_readAtom_127_77, k_X5_readAtom_127_77, e_X5_readAtom_127_87, e_X5_readAtom_127_88, k_X5_readAtom_127_88, b1, e1, m1, j1, q_bd_l, z_ltT, z_ltF, z_eqT, z_eqF, z_ltlT, z_ltlF, z_lltT, z_lltF, z_eqlT, z_eqlF, z_in, z_k7, z_cl, z_lneg, z_llT, z_llF, z_s1, z_nI_cl, z_nlt0, z_ne_m1, z_b0, z_b1, z_la, z_al, z_lm, z_ml, z_nm, nI_add, pk_mul, ↓reduceIte, not_true_eq_false, not_false_eq_true, true_or, or_true, false_or, or_false, true_and, and_true, and_false, false_and, Classical.not_not, Nat.add_zero, z_01, z_em, z_bit_p, Nat.not_le, Nat.not_lt, reduceCtorEq, if_true, if_false]
          · have ea : S ++ a.2.1 ++ [1201] ++ b.2.1 ++ [last] = S ++ (a.2.1 ++ 1201 :: (b.2.1 ++ [last])) := by simp
            rw [← ea]; exact j4
        · obtain ⟨M, m1, m2, m3⟩ := sm2.2 e he
          refine ⟨M, ?_, m2, z_fr_t fE m3⟩
          simp (disch := omega) only [e_X5_readAtom_127_71, k_X5_readAtom_127_71, e_X5_readAtom_127_75, k_X5_readAtom_127_75, e_X5_readAtom_127_77, k_X5_readAtom_127_77, b1, e1, m1, q_bd_l, z_ltT, z_ltF, z_eqT, z_eqF, z_ltlT, z_ltlF, z_lltT, z_lltF, z_eqlT, z_eqlF, z_in, z_k7, z_cl, z_lneg, z_llT, z_llF, z_s1, z_nI_cl, z_nlt0, z_ne_m1, z_b0, z_b1, z_la, z_al, z_lm, z_ml, z_nm, nI_add, pk_mul, ↓reduceIte, not_true_eq_false, not_false_eq_true, true_or, or_true, false_or, or_false, true_and, and_true, and_false, false_and, Classical.not_not, Nat.add_zero, z_01, z_em, z_bit_p, Nat.not_le, Nat.not_lt, reduceCtorEq, if_true, if_false]
      by_cases c4 : t_isS 60 B n a.1 = true
      · rw [if_pos c4]
        obtain ⟨r1, r2⟩ := rest 1 1202 (.inl ⟨rfl, rfl⟩) (t_isS_nx c4).1
        have st2 : q_bd (z_r 1 K T) (fun v h' => q_res X q_sb q_pg (d + 4) cd_X5_readAtom 51 [some (.ref 127), some (.int v1), some (.int (-1)), none] (v.toList ++ []) h') = c_X5_readAtom_127_68 X (d + 4) v1 (-1) 1 K T := by
          simp (disch := omega) only [e_X5_readAtom_127_51, k_X5_readAtom_127_51, e_X5_readAtom_127_58, k_X5_readAtom_127_58, s60', c4, z_b, q_bd_l, z_ltT, z_ltF, z_eqT, z_eqF, z_ltlT, z_ltlF, z_lltT, z_lltF, z_eqlT, z_eqlF, z_in, z_k7, z_cl, z_lneg, z_llT, z_llF, z_s1, z_nI_cl, z_nlt0, z_ne_m1, z_b0, z_b1, z_la, z_al, z_lm, z_ml, z_nm, nI_add, pk_mul, ↓reduceIte, not_true_eq_false, not_false_eq_true, true_or, or_true, false_or, or_false, true_and, and_true, and_false, false_and, Classical.not_not, Nat.add_zero, z_01, z_em, z_bit_p, Nat.not_le, Nat.not_lt, reduceCtorEq, if_true, if_false]
        rw [st2]
        cases hs2 : P_sum B n f (t_nx B n a.1) with
        | none => exact ⟨fun v h => (by cases h), fun e h => (by cases h)⟩
        | some rb =>
          cases rb with
          | error e =>
            refine ⟨fun v h => (by cases h), fun e' h => ?_⟩
            cases h
            exact r2 e hs2
          | ok b =>
            refine ⟨fun v h => ?_, fun e h => (by cases h)⟩
            cases h
            exact r1 b hs2
      rw [if_neg c4]
      by_cases c5 : t_isS 62 B n a.1 = true
      · rw [if_pos c5]
        obtain ⟨r1, r2⟩ := rest 0 1203 (.inr ⟨rfl, rfl⟩) (t_isS_nx c5).1
        have st2 : q_bd (z_r 1 K T) (fun v h' => q_res X q_sb q_pg (d + 4) cd_X5_readAtom 51 [some (.ref 127), some (.int v1), some (.int (-1)), none] (v.toList ++ []) h') = c_X5_readAtom_127_68 X (d + 4) v1 (-1) 0 K T := by
          simp (disch := omega) only [e_X5_readAtom_127_51, k_X5_readAtom_127_51, e_X5_readAtom_127_58, k_X5_readAtom_127_58, e_X5_readAtom_127_65, k_X5_readAtom_127_65, s60', c4, s62', c5, z_b, q_bd_l, z_ltT, z_ltF, z_eqT, z_eqF, z_ltlT, z_ltlF, z_lltT, z_lltF, z_eqlT, z_eqlF, z_in, z_k7, z_cl, z_lneg, z_llT, z_llF, z_s1, z_nI_cl, z_nlt0, z_ne_m1, z_b0, z_b1, z_la, z_al, z_lm, z_ml, z_nm, nI_add, pk_mul, ↓reduceIte, not_true_eq_false, not_false_eq_true, true_or, or_true, false_or, or_false, true_and, and_true, and_false, false_and, Classical.not_not, Nat.add_zero, z_01, z_em, z_bit_p, Nat.not_le, Nat.not_lt, reduceCtorEq, if_true, if_false]
        rw [st2]
        cases hs2 : P_sum B n f (t_nx B n a.1) with
        | none => exact ⟨fun v h => (by cases h), fun e h => (by cases h)⟩
        | some rb =>
          cases rb with
          | error e =>
            refine ⟨fun v h => (by cases h), fun e' h => ?_⟩
            cases h
            exact r2 e hs2
          | ok b =>
            refine ⟨fun v h => ?_, fun e h => (by cases h)⟩
            cases h
            exact r1 b hs2
      rw [if_neg c5]
      refine ⟨fun v h => (by cases h), fun e' h => ?_⟩
      cases h
      refine ⟨K, ?_, x2, z_fr_t fA x4⟩
      simp (disch := omega) only [e_X5_readAtom_127_51, k_X5_readAtom_127_51, e_X5_readAtom_127_58, k_X5_readAtom_127_58, e_X5_readAtom_127_65, k_X5_readAtom_127_65, s60', c4, s62', c5, z_b, q_bd_l, z_ltT, z_ltF, z_eqT, z_eqF, z_ltlT, z_ltlF, z_lltT, z_lltF, z_eqlT, z_eqlF, z_in, z_k7, z_cl, z_lneg, z_llT, z_llF, z_s1, z_nI_cl, z_nlt0, z_ne_m1, z_b0, z_b1, z_la, z_al, z_lm, z_ml, z_nm, nI_add, pk_mul, ↓reduceIte, not_true_eq_false, not_false_eq_true, true_or, or_true, false_or, or_false, true_and, and_true, and_false, false_and, Classical.not_not, Nat.add_zero, z_01, z_em, z_bit_p, Nat.not_le, Nat.not_lt, reduceCtorEq, if_true, if_false]
