/-! ===== THE REFERENCE: tastes, years ahead, trials ===== -/
def m_qt (a k : Nat) : Bool := m_q a k || (a == 139 && k == 8)
/-- the tape tells tastes -/
def R_good (B : Nat → Nat) (N : Nat) : Bool := decide (N % 2 = 0) && decide (N ≤ 40) && z_all (fun k => decide (B k < if k % 2 = 0 then 6 else 10)) N
def R_nt (r : Nat → Int32) (B : Nat → Nat) (N j : Nat) : Int32 := z_it (fun i a => a + (if R_adv r j (B (2 * i)) = nI (B (2 * i + 1)) then 0 else 1)) (N / 2) 0
def R_ts (r : Nat → Int32) (B : Nat → Nat) (N n : Nat) (most : Int32) : Int32 := if R_good B N = true then z_set (fun j => decide (¬ most < R_nt r B N j)) n else -1
theorem z_m2 (k : Nat) (hk : k < 100000) : nI k - nI k / (2 : Int32) * (2 : Int32) = nI (k % 2) := pk_rem (d := 2) (by omega) (by omega) (by omega)
theorem z_fr_qt {I J : Ii} (h : z_fr m_q I J) : z_fr m_qt I J := z_fr_m h (fun a k h => by simp [m_qt, h])
theorem m_qt_140 (k : Nat) : m_qt 140 k = false := by simp [m_qt, m_q, m_r]
theorem m_qt_144 (k : Nat) : m_qt 144 k = false := by simp [m_qt, m_q, m_r]
theorem l_tasted (X : Sx) (d : Nat) (I : Ii) (T : Tt) (n N : Nat) (B : Nat → Nat) (most : Int32) (h : R_g n (I 140)) (hN : I 139 8 = nI N) (hN4 : N ≤ 400) (hB : ∀ k, k < N → I 144 k = nI (B k) ∧ B k < 256) : ∃ K, c_X12_tasted_139 X (d + 36) most I T = z_r (R_ts (I 140) B N n most) K T ∧ K 139 8 = 0 ∧ K 139 0 = I 139 0 ∧ z_fr m_qt I K := by
  have h10 := h.2.1
  have e : (q_w I 139 8 0) 140 = I 140 := z_w_a _ _ _ _ _ (by decide)
  have e4 : (q_w I 139 8 0) 144 = I 144 := z_w_a _ _ _ _ _ (by decide)
  have f0 : z_fr m_qt I (q_w I 139 8 0) := z_fr_w (z_fr_r _ _) 139 8 _ rfl
  have k8 : (q_w I 139 8 0) 139 8 = 0 := z_w_s _ _ _ _
  have k0 : (q_w I 139 8 0) 139 0 = I 139 0 := z_w_k _ _ _ _ _ (by decide)
  have st : c_X12_tasted_139 X (d + 36) most I T = c_X12_tasted_139_19 X (d + 35) most (nI N) (z_i (decide (N % 2 = 0) && decide (N ≤ 40))) (nI 0) (q_w I 139 8 0) T := by
    rw [e_X12_tasted_139, hN, z_m2 N (by omega)]
    by_cases h1 : N % 2 = 0
    · by_cases h2 : N ≤ 40
      · simp (disch := omega) only [e_X12_tasted_139_15, e_X12_tasted_139_16, h1, h2, z_i, q_bd_l, z_ltT, z_ltF, z_eqT, z_eqF, z_ltlT, z_ltlF, z_lltT, z_lltF, z_eqlT, z_eqlF, z_in, z_k7, z_cl, z_lneg, z_llT, z_llF, z_s1, z_nI_cl, z_nlt0, z_ne_m1, z_b0, z_b1, z_la, z_al, z_lm, z_ml, z_nm, nI_add, pk_mul, ↓reduceIte, not_true_eq_false, not_false_eq_true, true_or, or_true, false_or, or_false, true_and, and_true, and_false, false_and, Classical.not_not, Nat.add_zero, z_01, z_em, z_bit_p, Nat.not_le, Nat.not_lt, reduceCtorEq, if_true, if_false, decide_true, decide_false, Bool.and_true, Bool.and_false, Bool.true_and, Bool.false_and, Bool.or_true, Bool.or_false, Bool.true_or, Bool.false_or, Bool.false_eq_true, ne_eq, Bool.not_true, Bool.not_false, decide_not]
        rfl
      · simp (disch := omega) only [e_X12_tasted_139_15, e_X12_tasted_139_16, h1, h2, z_i, q_bd_l, z_ltT, z_ltF, z_eqT, z_eqF, z_ltlT, z_ltlF, z_lltT, z_lltF, z_eqlT, z_eqlF, z_in, z_k7, z_cl, z_lneg, z_llT, z_llF, z_s1, z_nI_cl, z_nlt0, z_ne_m1, z_b0, z_b1, z_la, z_al, z_lm, z_ml, z_nm, nI_add, pk_mul, ↓reduceIte, not_true_eq_false, not_false_eq_true, true_or, or_true, false_or, or_false, true_and, and_true, and_false, false_and, Classical.not_not, Nat.add_zero, z_01, z_em, z_bit_p, Nat.not_le, Nat.not_lt, reduceCtorEq, if_true, if_false, decide_true, decide_false, Bool.and_true, Bool.and_false, Bool.true_and, Bool.false_and, Bool.or_true, Bool.or_false, Bool.true_or, Bool.false_or, Bool.false_eq_true, ne_eq, Bool.not_true, Bool.not_false, decide_not]
        rfl
    · simp (disch := omega) only [e_X12_tasted_139_15, e_X12_tasted_139_16, h1, z_i, q_bd_l, z_ltT, z_ltF, z_eqT, z_eqF, z_ltlT, z_ltlF, z_lltT, z_lltF, z_eqlT, z_eqlF, z_in, z_k7, z_cl, z_lneg, z_llT, z_llF, z_s1, z_nI_cl, z_nlt0, z_ne_m1, z_b0, z_b1, z_la, z_al, z_lm, z_ml, z_nm, nI_add, pk_mul, ↓reduceIte, not_true_eq_false, not_false_eq_true, true_or, or_true, false_or, or_false, true_and, and_true, and_false, false_and, Classical.not_not, Nat.add_zero, z_01, z_em, z_bit_p, Nat.not_le, Nat.not_lt, reduceCtorEq, if_true, if_false, decide_true, decide_false, Bool.and_true, Bool.and_false, Bool.true_and, Bool.false_and, Bool.or_true, Bool.or_false, Bool.true_or, Bool.false_or, Bool.false_eq_true, ne_eq, Bool.not_true, Bool.not_false, decide_not]
      rfl
  generalize q_w I 139 8 0 = J at *
  have n3 : J 140 3 = nI n := by rw [e]; exact h.1
  -- the check
  have ck : ∀ m k g, k + m = N → ∃ v4, c_X12_tasted_139_19 X (d + 35) most (nI N) (z_i g) (nI k) J T = c_X12_tasted_139_42 X (d + 35) most (nI N) (z_i (g && decide (∀ i, i < N → k ≤ i → B i < if i % 2 = 0 then 6 else 10))) v4 J T := by
    intro m
    induction m with
    | zero =>
      intro k g hk
      refine ⟨nI k, ?_⟩
      have e1 : decide (∀ i, i < N → k ≤ i → B i < if i % 2 = 0 then 6 else 10) = true := decide_eq_true (fun i h1 h2 => by omega)
      rw [e_X12_tasted_139_19, e1, Bool.and_true]
      simp (disch := omega) only [q_bd_l, z_ltT, z_ltF, z_eqT, z_eqF, z_ltlT, z_ltlF, z_lltT, z_lltF, z_eqlT, z_eqlF, z_in, z_k7, z_cl, z_lneg, z_llT, z_llF, z_s1, z_nI_cl, z_nlt0, z_ne_m1, z_b0, z_b1, z_la, z_al, z_lm, z_ml, z_nm, nI_add, pk_mul, ↓reduceIte, not_true_eq_false, not_false_eq_true, true_or, or_true, false_or, or_false, true_and, and_true, and_false, false_and, Classical.not_not, Nat.add_zero, z_01, z_em, z_bit_p, Nat.not_le, Nat.not_lt, reduceCtorEq, if_true, if_false]
    | succ m ih =>
      intro k g hk
      rw [e_X12_tasted_139_19]
      cases g with
      | false =>
        refine ⟨nI k, ?_⟩
        simp (disch := omega) only [z_i, q_bd_l, z_ltT, z_ltF, z_eqT, z_eqF, z_ltlT, z_ltlF, z_lltT, z_lltF, z_eqlT, z_eqlF, z_in, z_k7, z_cl, z_lneg, z_llT, z_llF, z_s1, z_nI_cl, z_nlt0, z_ne_m1, z_b0, z_b1, z_la, z_al, z_lm, z_ml, z_nm, nI_add, pk_mul, ↓reduceIte, not_true_eq_false, not_false_eq_true, true_or, or_true, false_or, or_false, true_and, and_true, and_false, false_and, Classical.not_not, Nat.add_zero, z_01, z_em, z_bit_p, Nat.not_le, Nat.not_lt, reduceCtorEq, if_true, if_false, decide_true, decide_false, Bool.and_true, Bool.and_false, Bool.true_and, Bool.false_and, Bool.or_true, Bool.or_false, Bool.true_or, Bool.false_or, Bool.false_eq_true, ne_eq, Bool.not_true, Bool.not_false, decide_not]
      | true =>
        obtain ⟨b1, b2⟩ := hB k (by omega)
        obtain ⟨v4, hv⟩ := ih (k + 1) (decide (B k < if k % 2 = 0 then 6 else 10)) (by omega)
        refine ⟨v4, ?_⟩
        have e5 : (decide (B k < if k % 2 = 0 then 6 else 10) && decide (∀ i, i < N → k + 1 ≤ i → B i < if i % 2 = 0 then 6 else 10)) = (true && decide (∀ i, i < N → k ≤ i → B i < if i % 2 = 0 then 6 else 10)) := by
          rw [Bool.true_and, ← Bool.decide_and]
          refine decide_eq_decide.mpr ⟨fun h i h1 h2 => ?_, fun h => ⟨h k (by omega) (by omega), fun i h1 h2 => h i h1 (by omega)⟩⟩
          by_cases ei : i = k
          · subst ei; exact h.1
          · exact h.2 i h1 (by omega)
        rw [e5] at hv
        refine Eq.trans ?_ hv
        have m2 := z_m2 k (by omega)
        by_cases hp : k % 2 = 0
        · by_cases hc : B k < 6 <;> simp (disch := omega) only [e_X12_tasted_139_35, e_X12_tasted_139_39, e4, b1, m2, hp, hc, z_i, q_bd_l, z_ltT, z_ltF, z_eqT, z_eqF, z_ltlT, z_ltlF, z_lltT, z_lltF, z_eqlT, z_eqlF, z_in, z_k7, z_cl, z_lneg, z_llT, z_llF, z_s1, z_nI_cl, z_nlt0, z_ne_m1, z_b0, z_b1, z_la, z_al, z_lm, z_ml, z_nm, nI_add, pk_mul, ↓reduceIte, not_true_eq_false, not_false_eq_true, true_or, or_true, false_or, or_false, true_and, and_true, and_false, false_and, Classical.not_not, Nat.add_zero, z_01, z_em, z_bit_p, Nat.not_le, Nat.not_lt, reduceCtorEq, if_true, if_false, decide_true, decide_false, Bool.and_true, Bool.and_false, Bool.true_and, Bool.false_and, Bool.or_true, Bool.or_false, Bool.true_or, Bool.false_or, Bool.false_eq_true, ne_eq, Bool.not_true, Bool.not_false, decide_not]
        · by_cases hc : B k < 10 <;> simp (disch := omega) only [e_X12_tasted_139_35, e_X12_tasted_139_39, e4, b1, m2, hp, hc, z_i, q_bd_l, z_ltT, z_ltF, z_eqT, z_eqF, z_ltlT, z_ltlF, z_lltT, z_lltF, z_eqlT, z_eqlF, z_in, z_k7, z_cl, z_lneg, z_llT, z_llF, z_s1, z_nI_cl, z_nlt0, z_ne_m1, z_b0, z_b1, z_la, z_al, z_lm, z_ml, z_nm, nI_add, pk_mul, ↓reduceIte, not_true_eq_false, not_false_eq_true, true_or, or_true, false_or, or_false, true_and, and_true, and_false, false_and, Classical.not_not, Nat.add_zero, z_01, z_em, z_bit_p, Nat.not_le, Nat.not_lt, reduceCtorEq, if_true, if_false, decide_true, decide_false, Bool.and_true, Bool.and_false, Bool.true_and, Bool.false_and, Bool.or_true, Bool.or_false, Bool.true_or, Bool.false_or, Bool.false_eq_true, ne_eq, Bool.not_true, Bool.not_false, decide_not]
  obtain ⟨v4, hck⟩ := ck N 0 (decide (N % 2 = 0) && decide (N ≤ 40)) (by omega)
  have eg : ((decide (N % 2 = 0) && decide (N ≤ 40)) && decide (∀ i, i < N → 0 ≤ i → B i < if i % 2 = 0 then 6 else 10)) = R_good B N := by
    unfold R_good
    congr 1
    have := z_all_p (fun k => decide (B k < if k % 2 = 0 then 6 else 10)) N
    by_cases hq : ∀ i, i < N → 0 ≤ i → B i < if i % 2 = 0 then 6 else 10
    · rw [decide_eq_true hq]
      exact (this ▸ (fun k hk => decide_eq_true (hq k hk (by omega)) : ∀ k, k < N → decide (B k < if k % 2 = 0 then 6 else 10) = true)).symm
    · rw [decide_eq_false hq]
      cases hz : z_all (fun k => decide (B k < if k % 2 = 0 then 6 else 10)) N
      · rfl
      · exfalso
        rw [this] at hz
        exact hq (fun i hi _ => of_decide_eq_true (hz i hi))
  rw [eg] at hck
  rw [st, hck]
  unfold R_ts
  cases hg : R_good B N with
  | false =>
    refine ⟨J, ?_, k8, k0, f0⟩
    rw [e_X12_tasted_139_42]
    simp (disch := omega) only [z_i, q_bd_l, z_ltT, z_ltF, z_eqT, z_eqF, z_ltlT, z_ltlF, z_lltT, z_lltF, z_eqlT, z_eqlF, z_in, z_k7, z_cl, z_lneg, z_llT, z_llF, z_s1, z_nI_cl, z_nlt0, z_ne_m1, z_b0, z_b1, z_la, z_al, z_lm, z_ml, z_nm, nI_add, pk_mul, ↓reduceIte, not_true_eq_false, not_false_eq_true, true_or, or_true, false_or, or_false, true_and, and_true, and_false, false_and, Classical.not_not, Nat.add_zero, z_01, z_em, z_bit_p, Nat.not_le, Nat.not_lt, reduceCtorEq, if_true, if_false, decide_true, decide_false, Bool.and_true, Bool.and_false, Bool.true_and, Bool.false_and, Bool.or_true, Bool.or_false, Bool.true_or, Bool.false_or, Bool.false_eq_true, ne_eq, Bool.not_true, Bool.not_false, decide_not]
  | true =>
    have hg2 := hg
    unfold R_good at hg2
    rw [Bool.and_eq_true, Bool.and_eq_true, decide_eq_true_eq, decide_eq_true_eq, z_all_p] at hg2
    obtain ⟨⟨g1, g2⟩, g3⟩ := hg2
    obtain ⟨⟨K, o6, o7⟩, ⟨p1, p2, p3⟩, p4⟩ := z_foldP (β := Int32) (σ := Ii × Option Value × Option Value) (fun j a K => c_X12_tasted_139_50 X (d + 35) most (nI N) 1 a (nI j) K.2.1 K.2.2 K.1 T) (fun j a => a ||| (if decide (¬ most < R_nt (I 140) B N j) = true then (1 : Int32) <<< (nI j &&& 31) else 0)) (fun j a K => z_fr m_qt I K.1 ∧ K.1 139 8 = 0 ∧ K.1 139 0 = I 139 0) n (by
      intro j a K hj ⟨q1, q2, q3⟩
      obtain ⟨K, o6, o7⟩ := K
      dsimp only at q1 q2 q3 ⊢
      have n3K : K 140 3 = nI n := by rw [z_fr_row q1 140 m_qt_140]; exact h.1
      obtain ⟨L, ⟨l1, l2, l3⟩, l4⟩ := z_foldP (β := Int32) (σ := Ii) (fun i x L => c_X12_tasted_139_60 X (d + 35) most (nI N) 1 a (nI j) x (nI (2 * i)) L T) (fun i x => x + (if R_adv (I 140) j (B (2 * i)) = nI (B (2 * i + 1)) then 0 else 1)) (fun i x L => z_fr m_qt I L ∧ L 139 8 = 0 ∧ L 139 0 = I 139 0) (N / 2) (by
        intro i x L hi ⟨a1, a2, a3⟩
        have eL := z_fr_row a1 140 m_qt_140
        have eL4 := z_fr_row a1 144 m_qt_144
        have b0 := hB (2 * i) (by omega)
        have b1 := hB (2 * i + 1) (by omega)
        have c0 := of_decide_eq_true (g3 (2 * i) (by omega))
        rw [if_pos (by omega)] at c0
        obtain ⟨M, m1, m2⟩ := l_adv X (d + 1) L T j (B (2 * i)) (by omega) c0 (by rw [eL]; exact h.2.2)
        rw [eL] at m1
        have eM4 : M 144 = I 144 := by rw [z_fr_row m2 144 (fun k => by simp [m_r]), eL4]
        refine ⟨M, ⟨z_fr_t a1 (z_fr_qt (z_fr_q m2)), (m2 139 8 rfl).trans a2, (m2 139 0 rfl).trans a3⟩, ?_⟩
        rw [e_X12_tasted_139_60]
        have b0' := b0.1
        have b1' := b1.1
        have e22 : 2 * (i + 1) = 2 * i + 2 := by omega
        by_cases hc : R_adv (I 140) j (B (2 * i)) = nI (B (2 * i + 1)) <;> simp (disch := omega) only [e_X12_tasted_139_15, e_X12_tasted_139_16, e_X12_tasted_139_35, e_X12_tasted_139_39, e_X12_tasted_139_42, e_X12_tasted_139_71, k_X12_tasted_139_71, e_X12_tasted_139_81, e_X12_tasted_139_94, eL4, eM4, b0', b1', m1, hc, e22, q_bd_l, z_ltT, z_ltF, z_eqT, z_eqF, z_ltlT, z_ltlF, z_lltT, z_lltF, z_eqlT, z_eqlF, z_in, z_k7, z_cl, z_lneg, z_llT, z_llF, z_s1, z_nI_cl, z_nlt0, z_ne_m1, z_b0, z_b1, z_la, z_al, z_lm, z_ml, z_nm, nI_add, pk_mul, ↓reduceIte, not_true_eq_false, not_false_eq_true, true_or, or_true, false_or, or_false, true_and, and_true, and_false, false_and, Classical.not_not, Nat.add_zero, z_01, z_em, z_bit_p, Nat.not_le, Nat.not_lt, reduceCtorEq, if_true, if_false, decide_true, decide_false, Bool.and_true, Bool.and_false, Bool.true_and, Bool.false_and, Bool.or_true, Bool.or_false, Bool.true_or, Bool.false_or, Bool.false_eq_true, ne_eq, Bool.not_true, Bool.not_false, decide_not]) 0 K ⟨q1, q2, q3⟩
      refine ⟨(L, some (.int (R_nt (I 140) B N j)), some (.int (nI (2 * (N / 2))))), ⟨l1, l2, l3⟩, ?_⟩
      dsimp only
      rw [e_X12_tasted_139_50]
      simp (disch := omega) only [n3K, q_bd_l, z_ltT, z_ltF, z_eqT, z_eqF, z_ltlT, z_ltlF, z_lltT, z_lltF, z_eqlT, z_eqlF, z_in, z_k7, z_cl, z_lneg, z_llT, z_llF, z_s1, z_nI_cl, z_nlt0, z_ne_m1, z_b0, z_b1, z_la, z_al, z_lm, z_ml, z_nm, nI_add, pk_mul, ↓reduceIte, not_true_eq_false, not_false_eq_true, true_or, or_true, false_or, or_false, true_and, and_true, and_false, false_and, Classical.not_not, Nat.add_zero, z_01, z_em, z_bit_p, Nat.not_le, Nat.not_lt, reduceCtorEq, if_true, if_false]
      refine l4.trans ?_
      rw [e_X12_tasted_139_60]
      have er : z_it (fun i x => x + (if R_adv (I 140) j (B (2 * i)) = nI (B (2 * i + 1)) then 0 else 1)) (N / 2) 0 = R_nt (I 140) B N j := rfl
      rw [er]
      have e2 : 2 * (N / 2) = N := by omega
      by_cases hc : most < R_nt (I 140) B N j <;> simp (disch := omega) only [e_X12_tasted_139_15, e_X12_tasted_139_16, e_X12_tasted_139_35, e_X12_tasted_139_39, e_X12_tasted_139_42, e_X12_tasted_139_71, k_X12_tasted_139_71, e_X12_tasted_139_81, e_X12_tasted_139_94, e2, hc, q_bd_l, z_ltT, z_ltF, z_eqT, z_eqF, z_ltlT, z_ltlF, z_lltT, z_lltF, z_eqlT, z_eqlF, z_in, z_k7, z_cl, z_lneg, z_llT, z_llF, z_s1, z_nI_cl, z_nlt0, z_ne_m1, z_b0, z_b1, z_la, z_al, z_lm, z_ml, z_nm, nI_add, pk_mul, ↓reduceIte, not_true_eq_false, not_false_eq_true, true_or, or_true, false_or, or_false, true_and, and_true, and_false, false_and, Classical.not_not, Nat.add_zero, z_01, z_em, z_bit_p, Nat.not_le, Nat.not_lt, reduceCtorEq, if_true, if_false, decide_true, decide_false, Bool.and_true, Bool.and_false, Bool.true_and, Bool.false_and, Bool.or_true, Bool.or_false, Bool.true_or, Bool.false_or, Bool.false_eq_true, ne_eq, Bool.not_true, Bool.not_false, decide_not]) 0 (J, none, none) ⟨f0, k8, k0⟩
    dsimp only at p1 p2 p3 p4
    refine ⟨K, ?_, p2, p3, p1⟩
    rw [e_X12_tasted_139_42]
    have n3K : K 140 3 = nI n := by rw [z_fr_row p1 140 m_qt_140]; exact h.1
    simp (disch := omega) only [z_i, q_bd_l, z_ltT, z_ltF, z_eqT, z_eqF, z_ltlT, z_ltlF, z_lltT, z_lltF, z_eqlT, z_eqlF, z_in, z_k7, z_cl, z_lneg, z_llT, z_llF, z_s1, z_nI_cl, z_nlt0, z_ne_m1, z_b0, z_b1, z_la, z_al, z_lm, z_ml, z_nm, nI_add, pk_mul, ↓reduceIte, not_true_eq_false, not_false_eq_true, true_or, or_true, false_or, or_false, true_and, and_true, and_false, false_and, Classical.not_not, Nat.add_zero, z_01, z_em, z_bit_p, Nat.not_le, Nat.not_lt, reduceCtorEq, if_true, if_false]
    refine p4.trans ?_
    rw [e_X12_tasted_139_50]
    simp (disch := omega) only [n3K, q_bd_l, z_ltT, z_ltF, z_eqT, z_eqF, z_ltlT, z_ltlF, z_lltT, z_lltF, z_eqlT, z_eqlF, z_in, z_k7, z_cl, z_lneg, z_llT, z_llF, z_s1, z_nI_cl, z_nlt0, z_ne_m1, z_b0, z_b1, z_la, z_al, z_lm, z_ml, z_nm, nI_add, pk_mul, ↓reduceIte, not_true_eq_false, not_false_eq_true, true_or, or_true, false_or, or_false, true_and, and_true, and_false, false_and, Classical.not_not, Nat.add_zero, z_01, z_em, z_bit_p, Nat.not_le, Nat.not_lt, reduceCtorEq, if_true, if_false]
    rfl
theorem l_tastes (X : Sx) (d : Nat) (I : Ii) (T : Tt) (n N : Nat) (B : Nat → Nat) (v : Int32) (h : R_g n (I 140)) (hN : I 139 8 = nI N) (hN4 : N ≤ 400) (hB : ∀ k, k < N → I 144 k = nI (B k) ∧ B k < 256) : ∃ K, c_X12_tastes_139 X (d + 37) v I T = z_r (if R_ts (I 140) B N n (if v = 0 then 0 else 1) = -1 then 0 else R_ts (I 140) B N n (if v = 0 then 0 else 1)) K T ∧ K 139 8 = 0 ∧ K 139 0 = z_b (R_ts (I 140) B N n (if v = 0 then 0 else 1) = -1) ∧ z_fr m_qt I K := by
  obtain ⟨J, h1, h2, h3, h4⟩ := l_tasted X d I T n N B (if v = 0 then 0 else 1) h hN hN4 hB
  rw [e_X12_tastes_139]
  unfold z_b
  by_cases hc : R_ts (I 140) B N n (if v = 0 then 0 else 1) = -1
  · refine ⟨q_w J 139 0 1, ?_, by rw [z_w_k _ _ _ _ _ (by decide)]; exact h2, by rw [z_w_s, if_pos hc], z_fr_w h4 139 0 _ rfl⟩
    by_cases hv : v = 0
    · simp only [hv, ↓reduceIte] at h1 hc ⊢
      simp (disch := omega) only [e_X12_tastes_139, e_X12_tastes_139_6, e_X12_tastes_139_7, k_X12_tastes_139_7, e_X12_tastes_139_15, h1, hc, q_bd_l, z_ltT, z_ltF, z_eqT, z_eqF, z_ltlT, z_ltlF, z_lltT, z_lltF, z_eqlT, z_eqlF, z_in, z_k7, z_cl, z_lneg, z_llT, z_llF, z_s1, z_nI_cl, z_nlt0, z_ne_m1, z_b0, z_b1, z_la, z_al, z_lm, z_ml, z_nm, nI_add, pk_mul, ↓reduceIte, not_true_eq_false, not_false_eq_true, true_or, or_true, false_or, or_false, true_and, and_true, and_false, false_and, Classical.not_not, Nat.add_zero, z_01, z_em, z_bit_p, Nat.not_le, Nat.not_lt, reduceCtorEq, if_true, if_false]
    · simp only [hv, ↓reduceIte] at h1 hc ⊢
      simp (disch := omega) only [e_X12_tastes_139, e_X12_tastes_139_6, e_X12_tastes_139_7, k_X12_tastes_139_7, e_X12_tastes_139_15, h1, hc, q_bd_l, z_ltT, z_ltF, z_eqT, z_eqF, z_ltlT, z_ltlF, z_lltT, z_lltF, z_eqlT, z_eqlF, z_in, z_k7, z_cl, z_lneg, z_llT, z_llF, z_s1, z_nI_cl, z_nlt0, z_ne_m1, z_b0, z_b1, z_la, z_al, z_lm, z_ml, z_nm, nI_add, pk_mul, ↓reduceIte, not_true_eq_false, not_false_eq_true, true_or, or_true, false_or, or_false, true_and, and_true, and_false, false_and, Classical.not_not, Nat.add_zero, z_01, z_em, z_bit_p, Nat.not_le, Nat.not_lt, reduceCtorEq, if_true, if_false]
  · refine ⟨q_w J 139 0 0, ?_, by rw [z_w_k _ _ _ _ _ (by decide)]; exact h2, by rw [z_w_s, if_neg hc], z_fr_w h4 139 0 _ rfl⟩
    by_cases hv : v = 0
    · simp only [hv, ↓reduceIte] at h1 hc ⊢
      simp (disch := omega) only [e_X12_tastes_139, e_X12_tastes_139_6, e_X12_tastes_139_7, k_X12_tastes_139_7, e_X12_tastes_139_15, h1, hc, q_bd_l, z_ltT, z_ltF, z_eqT, z_eqF, z_ltlT, z_ltlF, z_lltT, z_lltF, z_eqlT, z_eqlF, z_in, z_k7, z_cl, z_lneg, z_llT, z_llF, z_s1, z_nI_cl, z_nlt0, z_ne_m1, z_b0, z_b1, z_la, z_al, z_lm, z_ml, z_nm, nI_add, pk_mul, ↓reduceIte, not_true_eq_false, not_false_eq_true, true_or, or_true, false_or, or_false, true_and, and_true, and_false, false_and, Classical.not_not, Nat.add_zero, z_01, z_em, z_bit_p, Nat.not_le, Nat.not_lt, reduceCtorEq, if_true, if_false]
    · simp only [hv, ↓reduceIte] at h1 hc ⊢
      simp (disch := omega) only [e_X12_tastes_139, e_X12_tastes_139_6, e_X12_tastes_139_7, k_X12_tastes_139_7, e_X12_tastes_139_15, h1, hc, q_bd_l, z_ltT, z_ltF, z_eqT, z_eqF, z_ltlT, z_ltlF, z_lltT, z_lltF, z_eqlT, z_eqlF, z_in, z_k7, z_cl, z_lneg, z_llT, z_llF, z_s1, z_nI_cl, z_nlt0, z_ne_m1, z_b0, z_b1, z_la, z_al, z_lm, z_ml, z_nm, nI_add, pk_mul, ↓reduceIte, not_true_eq_false, not_false_eq_true, true_or, or_true, false_or, or_false, true_and, and_true, and_false, false_and, Classical.not_not, Nat.add_zero, z_01, z_em, z_bit_p, Nat.not_le, Nat.not_lt, reduceCtorEq, if_true, if_false]
def R_g1 (r : Nat → Int32) (n : Nat) (s : Int32) (t a : Nat) : Int32 := z_it (fun j x => x + (if z_bit s j = true ∧ R_adv r j t = nI a then 1 else 0)) n 0
def R_grp (r : Nat → Int32) (n : Nat) (s : Int32) (t : Nat) : Int32 := z_it (fun a m => if R_g1 r n s t a < m then m else R_g1 r n s t a) 10 0
theorem l_group (X : Sx) (d : Nat) (I : Ii) (T : Tt) (n t : Nat) (s : Int32) (ht : t < 6) (h : R_g n (I 140)) : ∃ K, c_X12_group_139 X (d + 36) s (nI t) I T = z_r (R_grp (I 140) n s t) K T ∧ z_fr m_r I K := by
  have h10 := h.2.1
  obtain ⟨⟨J, o5, o6⟩, p1, p4⟩ := z_foldP (β := Int32) (σ := Ii × Option Value × Option Value) (fun a m J => c_X12_group_139_4 X (d + 35) s (nI t) m (nI a) J.2.1 J.2.2 J.1 T) (fun a m => if R_g1 (I 140) n s t a < m then m else R_g1 (I 140) n s t a) (fun _ _ J => z_fr m_r I J.1) 10 (by
    intro a m J ha hP
    obtain ⟨J, o5, o6⟩ := J
    dsimp only at hP ⊢
    obtain ⟨K, k1, k4⟩ := z_foldP (β := Int32) (σ := Ii) (fun j x K => c_X12_group_139_11 X (d + 35) s (nI t) m (nI a) x (nI j) K T) (fun j x => x + (if z_bit s j = true ∧ R_adv (I 140) j t = nI a then 1 else 0)) (fun _ _ K => z_fr m_r I K) n (by
      intro j x K hj hK
      have eK := z_r140 hK
      have n3 : K 140 3 = nI n := by rw [eK]; exact h.1
      rw [e_X12_group_139_11]
      cases hb : z_bit s j with
      | false =>
        refine ⟨K, hK, ?_⟩
        simp (disch := omega) only [e_X12_group_139_21, k_X12_group_139_21, e_X12_group_139_26, k_X12_group_139_26, e_X12_group_139_30, e_X12_group_139_31, e_X12_group_139_38, k_X12_group_139_38, n3, l_isOf, hb, q_bd_l, z_ltT, z_ltF, z_eqT, z_eqF, z_ltlT, z_ltlF, z_lltT, z_lltF, z_eqlT, z_eqlF, z_in, z_k7, z_cl, z_lneg, z_llT, z_llF, z_s1, z_nI_cl, z_nlt0, z_ne_m1, z_b0, z_b1, z_la, z_al, z_lm, z_ml, z_nm, nI_add, pk_mul, ↓reduceIte, not_true_eq_false, not_false_eq_true, true_or, or_true, false_or, or_false, true_and, and_true, and_false, false_and, Classical.not_not, Nat.add_zero, z_01, z_em, z_bit_p, Nat.not_le, Nat.not_lt, reduceCtorEq, if_true, if_false, decide_true, decide_false, Bool.and_true, Bool.and_false, Bool.true_and, Bool.false_and, Bool.or_true, Bool.or_false, Bool.true_or, Bool.false_or, Bool.false_eq_true, ne_eq, Bool.not_true, Bool.not_false, decide_not]
      | true =>
        obtain ⟨L, l1, l2⟩ := l_adv X (d + 1) K T j t (by omega) ht (by rw [eK]; exact h.2.2)
        rw [eK] at l1
        refine ⟨L, z_fr_t hK l2, ?_⟩
        by_cases hc : R_adv (I 140) j t = nI a <;> simp (disch := omega) only [e_X12_group_139_21, k_X12_group_139_21, e_X12_group_139_26, k_X12_group_139_26, e_X12_group_139_30, e_X12_group_139_31, e_X12_group_139_38, k_X12_group_139_38, n3, l_isOf, hb, l1, hc, q_bd_l, z_ltT, z_ltF, z_eqT, z_eqF, z_ltlT, z_ltlF, z_lltT, z_lltF, z_eqlT, z_eqlF, z_in, z_k7, z_cl, z_lneg, z_llT, z_llF, z_s1, z_nI_cl, z_nlt0, z_ne_m1, z_b0, z_b1, z_la, z_al, z_lm, z_ml, z_nm, nI_add, pk_mul, ↓reduceIte, not_true_eq_false, not_false_eq_true, true_or, or_true, false_or, or_false, true_and, and_true, and_false, false_and, Classical.not_not, Nat.add_zero, z_01, z_em, z_bit_p, Nat.not_le, Nat.not_lt, reduceCtorEq, if_true, if_false, decide_true, decide_false, Bool.and_true, Bool.and_false, Bool.true_and, Bool.false_and, Bool.or_true, Bool.or_false, Bool.true_or, Bool.false_or, Bool.false_eq_true, ne_eq, Bool.not_true, Bool.not_false, decide_not]) 0 J hP
    have n3K : K 140 3 = nI n := by rw [z_r140 k1]; exact h.1
    refine ⟨(K, some (.int (R_g1 (I 140) n s t a)), some (.int (nI n))), k1, ?_⟩
    dsimp only
    rw [e_X12_group_139_4]
    simp (disch := omega) only [q_bd_l, z_ltT, z_ltF, z_eqT, z_eqF, z_ltlT, z_ltlF, z_lltT, z_lltF, z_eqlT, z_eqlF, z_in, z_k7, z_cl, z_lneg, z_llT, z_llF, z_s1, z_nI_cl, z_nlt0, z_ne_m1, z_b0, z_b1, z_la, z_al, z_lm, z_ml, z_nm, nI_add, pk_mul, ↓reduceIte, not_true_eq_false, not_false_eq_true, true_or, or_true, false_or, or_false, true_and, and_true, and_false, false_and, Classical.not_not, Nat.add_zero, z_01, z_em, z_bit_p, Nat.not_le, Nat.not_lt, reduceCtorEq, if_true, if_false]
    refine k4.trans ?_
    rw [e_X12_group_139_11]
    have er : z_it (fun j x => x + (if z_bit s j = true ∧ R_adv (I 140) j t = nI a then 1 else 0)) n 0 = R_g1 (I 140) n s t a := rfl
    rw [er]
    simp (disch := omega) only [e_X12_group_139_21, k_X12_group_139_21, e_X12_group_139_26, k_X12_group_139_26, e_X12_group_139_30, e_X12_group_139_31, e_X12_group_139_38, k_X12_group_139_38, n3K, l_greater, q_bd_l, z_ltT, z_ltF, z_eqT, z_eqF, z_ltlT, z_ltlF, z_lltT, z_lltF, z_eqlT, z_eqlF, z_in, z_k7, z_cl, z_lneg, z_llT, z_llF, z_s1, z_nI_cl, z_nlt0, z_ne_m1, z_b0, z_b1, z_la, z_al, z_lm, z_ml, z_nm, nI_add, pk_mul, ↓reduceIte, not_true_eq_false, not_false_eq_true, true_or, or_true, false_or, or_false, true_and, and_true, and_false, false_and, Classical.not_not, Nat.add_zero, z_01, z_em, z_bit_p, Nat.not_le, Nat.not_lt, reduceCtorEq, if_true, if_false]) 0 (I, none, none) (z_fr_r _ _)
  dsimp only at p1 p4
  refine ⟨J, ?_, p1⟩
  rw [e_X12_group_139]
  refine p4.trans ?_
  rw [e_X12_group_139_4]
  simp (disch := omega) only [q_bd_l, z_ltT, z_ltF, z_eqT, z_eqF, z_ltlT, z_ltlF, z_lltT, z_lltF, z_eqlT, z_eqlF, z_in, z_k7, z_cl, z_lneg, z_llT, z_llF, z_s1, z_nI_cl, z_nlt0, z_ne_m1, z_b0, z_b1, z_la, z_al, z_lm, z_ml, z_nm, nI_add, pk_mul, ↓reduceIte, not_true_eq_false, not_false_eq_true, true_or, or_true, false_or, or_false, true_and, and_true, and_false, false_and, Classical.not_not, Nat.add_zero, z_01, z_em, z_bit_p, Nat.not_le, Nat.not_lt, reduceCtorEq, if_true, if_false]
  rfl
def R_nx1 (r : Nat → Int32) (n : Nat) (s : Int32) (t : Nat) (q : Int32 × Int32) : Int32 × Int32 := if R_grp r n s t < q.2 then (nI t, R_grp r n s t) else q
def R_nxt (r : Nat → Int32) (n : Nat) (s : Int32) (full : Int32) : Int32 := if 1 < R_bits s then (z_it (R_nx1 r n s) 6 (-1, full)).1 else -1
theorem l_next (X : Sx) (d : Nat) (I : Ii) (T : Tt) (n N : Nat) (B : Nat → Nat) (h : R_g n (I 140)) (hN : I 139 8 = nI N) (hN4 : N ≤ 400) (hB : ∀ k, k < N → I 144 k = nI (B k) ∧ B k < 256) : ∃ K, c_X12_next_139 X (d + 37) I T = z_r (if R_ts (I 140) B N n 0 = -1 then 0 else R_nxt (I 140) n (R_ts (I 140) B N n 0) 2000000000) K T ∧ K 139 8 = 0 ∧ K 139 0 = z_b (R_ts (I 140) B N n 0 = -1) ∧ z_fr m_qt I K := by
  have h10 := h.2.1
  obtain ⟨J, h1, h2, h3, h4⟩ := l_tasted X d I T n N B 0 h hN hN4 hB
  rw [e_X12_next_139, h1]
  unfold z_b
  generalize R_ts (I 140) B N n 0 = s at *
  by_cases hc : s = -1
  · refine ⟨q_w J 139 0 1, ?_, by rw [z_w_k _ _ _ _ _ (by decide)]; exact h2, by rw [z_w_s, if_pos hc], z_fr_w h4 139 0 _ rfl⟩
    simp (disch := omega) only [e_X12_next_139, e_X12_next_139_3, k_X12_next_139_3, e_X12_next_139_11, e_X12_next_139_28, k_X12_next_139_28, e_X12_next_139_34, k_X12_next_139_34, e_X12_next_139_41, k_X12_next_139_41, e_X12_next_139_44, e_X12_next_139_46, hc, q_bd_l, z_ltT, z_ltF, z_eqT, z_eqF, z_ltlT, z_ltlF, z_lltT, z_lltF, z_eqlT, z_eqlF, z_in, z_k7, z_cl, z_lneg, z_llT, z_llF, z_s1, z_nI_cl, z_nlt0, z_ne_m1, z_b0, z_b1, z_la, z_al, z_lm, z_ml, z_nm, nI_add, pk_mul, ↓reduceIte, not_true_eq_false, not_false_eq_true, true_or, or_true, false_or, or_false, true_and, and_true, and_false, false_and, Classical.not_not, Nat.add_zero, z_01, z_em, z_bit_p, Nat.not_le, Nat.not_lt, reduceCtorEq, if_true, if_false]
  · have f1 : z_fr m_qt I (q_w J 139 0 0) := z_fr_w h4 139 0 _ rfl
    have f8 : (q_w J 139 0 0) 139 8 = 0 := by rw [z_w_k _ _ _ _ _ (by decide)]; exact h2
    have f0 : (q_w J 139 0 0) 139 0 = 0 := z_w_s _ _ _ _
    have st : q_bd (z_r s J T) (fun v9 h' => q_res X q_sb q_pg (d + 36) cd_X12_next 3 [some (.ref 139), none, none, none, none] (v9.toList ++ []) h') = c_X12_next_139_23 X (d + 36) s (-1) 2000000000 (nI 0) (q_w J 139 0 0) T := by
      simp (disch := omega) only [e_X12_next_139_3, e_X12_next_139_11, k_X12_next_139_3, hc, q_bd_l, z_ltT, z_ltF, z_eqT, z_eqF, z_ltlT, z_ltlF, z_lltT, z_lltF, z_eqlT, z_eqlF, z_in, z_k7, z_cl, z_lneg, z_llT, z_llF, z_s1, z_nI_cl, z_nlt0, z_ne_m1, z_b0, z_b1, z_la, z_al, z_lm, z_ml, z_nm, nI_add, pk_mul, ↓reduceIte, not_true_eq_false, not_false_eq_true, true_or, or_true, false_or, or_false, true_and, and_true, and_false, false_and, Classical.not_not, Nat.add_zero, z_01, z_em, z_bit_p, Nat.not_le, Nat.not_lt, reduceCtorEq, if_true, if_false]
      rfl
    rw [st]
    unfold R_nxt
    by_cases hb : 1 < R_bits s
    · obtain ⟨K, ⟨p1, p2, p3⟩, p4⟩ := z_foldP (β := Int32 × Int32) (σ := Ii) (fun t q K => c_X12_next_139_23 X (d + 36) s q.1 q.2 (nI t) K T) (R_nx1 (I 140) n s) (fun _ _ K => z_fr m_qt I K ∧ K 139 8 = 0 ∧ K 139 0 = 0) 6 (by
        intro t q K ht ⟨a1, a2, a3⟩
        have eK := z_fr_row a1 140 m_qt_140
        obtain ⟨L, l1, l2⟩ := l_group X d K T n t s ht (by rw [eK]; exact h)
        have eL := z_r140 l2
        obtain ⟨M, m1, m2⟩ := l_group X d L T n t s ht (by rw [eL, eK]; exact h)
        rw [eK] at l1
        rw [eL, eK] at m1
        rw [e_X12_next_139_23]
        unfold R_nx1
        by_cases hg : R_grp (I 140) n s t < q.2
        · refine ⟨M, ⟨z_fr_t a1 (z_fr_qt (z_fr_q (z_fr_t l2 m2))), ((m2 139 8 rfl).trans (l2 139 8 rfl)).trans a2, ((m2 139 0 rfl).trans (l2 139 0 rfl)).trans a3⟩, ?_⟩
          simp (disch := omega) only [e_X12_next_139_3, k_X12_next_139_3, e_X12_next_139_11, e_X12_next_139_28, k_X12_next_139_28, e_X12_next_139_34, k_X12_next_139_34, e_X12_next_139_41, k_X12_next_139_41, e_X12_next_139_44, e_X12_next_139_46, l_bits, hb, l1, m1, hg, q_bd_l, z_ltT, z_ltF, z_eqT, z_eqF, z_ltlT, z_ltlF, z_lltT, z_lltF, z_eqlT, z_eqlF, z_in, z_k7, z_cl, z_lneg, z_llT, z_llF, z_s1, z_nI_cl, z_nlt0, z_ne_m1, z_b0, z_b1, z_la, z_al, z_lm, z_ml, z_nm, nI_add, pk_mul, ↓reduceIte, not_true_eq_false, not_false_eq_true, true_or, or_true, false_or, or_false, true_and, and_true, and_false, false_and, Classical.not_not, Nat.add_zero, z_01, z_em, z_bit_p, Nat.not_le, Nat.not_lt, reduceCtorEq, if_true, if_false]
        · refine ⟨L, ⟨z_fr_t a1 (z_fr_qt (z_fr_q l2)), (l2 139 8 rfl).trans a2, (l2 139 0 rfl).trans a3⟩, ?_⟩
          simp (disch := omega) only [e_X12_next_139_3, k_X12_next_139_3, e_X12_next_139_11, e_X12_next_139_28, k_X12_next_139_28, e_X12_next_139_34, k_X12_next_139_34, e_X12_next_139_41, k_X12_next_139_41, e_X12_next_139_44, e_X12_next_139_46, l_bits, hb, l1, hg, q_bd_l, z_ltT, z_ltF, z_eqT, z_eqF, z_ltlT, z_ltlF, z_lltT, z_lltF, z_eqlT, z_eqlF, z_in, z_k7, z_cl, z_lneg, z_llT, z_llF, z_s1, z_nI_cl, z_nlt0, z_ne_m1, z_b0, z_b1, z_la, z_al, z_lm, z_ml, z_nm, nI_add, pk_mul, ↓reduceIte, not_true_eq_false, not_false_eq_true, true_or, or_true, false_or, or_false, true_and, and_true, and_false, false_and, Classical.not_not, Nat.add_zero, z_01, z_em, z_bit_p, Nat.not_le, Nat.not_lt, reduceCtorEq, if_true, if_false]) (-1, 2000000000) (q_w J 139 0 0) ⟨f1, f8, f0⟩
      refine ⟨K, ?_, p2, by rw [p3, if_neg hc], p1⟩
      rw [if_neg hc, if_pos hb]
      refine p4.trans ?_
      rw [e_X12_next_139_23]
      simp (disch := omega) only [e_X12_next_139_3, k_X12_next_139_3, e_X12_next_139_11, e_X12_next_139_28, k_X12_next_139_28, e_X12_next_139_34, k_X12_next_139_34, e_X12_next_139_41, k_X12_next_139_41, e_X12_next_139_44, e_X12_next_139_46, q_bd_l, z_ltT, z_ltF, z_eqT, z_eqF, z_ltlT, z_ltlF, z_lltT, z_lltF, z_eqlT, z_eqlF, z_in, z_k7, z_cl, z_lneg, z_llT, z_llF, z_s1, z_nI_cl, z_nlt0, z_ne_m1, z_b0, z_b1, z_la, z_al, z_lm, z_ml, z_nm, nI_add, pk_mul, ↓reduceIte, not_true_eq_false, not_false_eq_true, true_or, or_true, false_or, or_false, true_and, and_true, and_false, false_and, Classical.not_not, Nat.add_zero, z_01, z_em, z_bit_p, Nat.not_le, Nat.not_lt, reduceCtorEq, if_true, if_false]
    · refine ⟨q_w J 139 0 0, ?_, f8, by rw [f0, if_neg hc], f1⟩
      rw [if_neg hc, if_neg hb, e_X12_next_139_23]
      simp (disch := omega) only [e_X12_next_139_3, k_X12_next_139_3, e_X12_next_139_11, e_X12_next_139_28, k_X12_next_139_28, e_X12_next_139_34, k_X12_next_139_34, e_X12_next_139_41, k_X12_next_139_41, e_X12_next_139_44, e_X12_next_139_46, l_bits, hb, q_bd_l, z_ltT, z_ltF, z_eqT, z_eqF, z_ltlT, z_ltlF, z_lltT, z_lltF, z_eqlT, z_eqlF, z_in, z_k7, z_cl, z_lneg, z_llT, z_llF, z_s1, z_nI_cl, z_nlt0, z_ne_m1, z_b0, z_b1, z_la, z_al, z_lm, z_ml, z_nm, nI_add, pk_mul, ↓reduceIte, not_true_eq_false, not_false_eq_true, true_or, or_true, false_or, or_false, true_and, and_true, and_false, false_and, Classical.not_not, Nat.add_zero, z_01, z_em, z_bit_p, Nat.not_le, Nat.not_lt, reduceCtorEq, if_true, if_false]
