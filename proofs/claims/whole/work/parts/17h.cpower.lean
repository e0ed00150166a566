/-! ===== power: sets and counted sums ===== -/
def p_S (se : Nat → Nat) : Nat → Nat → Nat
  | 0, _ => 0
  | k + 1, s => p_S se k s + (if s.testBit k = true then se k else 0)
theorem p_S_s (se : Nat → Nat) (k s : Nat) : p_S se (k + 1) s = p_S se k s + (if s.testBit k = true then se k else 0) := rfl
def p_c (p : Nat → Bool) : Nat → Nat
  | 0 => 0
  | m + 1 => p_c p m + (if p m = true then 1 else 0)
theorem p_c_c {p q : Nat → Bool} : ∀ {m : Nat}, (∀ s, s < m → p s = q s) → p_c p m = p_c q m
  | 0, _ => rfl
  | m + 1, h => by
    unfold p_c
    rw [p_c_c (fun s hs => h s (by omega)), h m (by omega)]
theorem p_c_add (p : Nat → Bool) (m : Nat) : ∀ l, p_c p (m + l) = p_c p m + p_c (fun i => p (m + i)) l
  | 0 => rfl
  | l + 1 => by
    show p_c p (m + l) + _ = _
    rw [p_c_add p m l]
    exact Nat.add_assoc _ _ _
theorem p_c_0 {p : Nat → Bool} : ∀ {m : Nat}, (∀ s, s < m → p s = false) → p_c p m = 0
  | 0, _ => rfl
  | m + 1, h => by
    unfold p_c
    rw [p_c_0 (fun s hs => h s (by omega)), h m (by omega)]
    rfl
theorem p_c_or {p q t : Nat → Bool} : ∀ {m : Nat}, (∀ s, s < m → p s = (q s || t s) ∧ (q s && t s) = false) → p_c p m = p_c q m + p_c t m
  | 0, _ => rfl
  | m + 1, h => by
    unfold p_c
    obtain ⟨h1, h2⟩ := h m (by omega)
    rw [p_c_or (fun s hs => h s (by omega)), h1]
    cases hq : q m <;> cases ht : t m <;> simp [hq, ht] at h2 ⊢ <;> omega
theorem p_S_lo (se : Nat → Nat) (k i : Nat) : ∀ l, l ≤ k → p_S se l (2 ^ k + i) = p_S se l i
  | 0, _ => rfl
  | l + 1, h => by
    rw [p_S_s, p_S_s, p_S_lo se k i l (by omega), Nat.testBit_two_pow_add_gt (by omega)]
def p_D (se : Nat → Nat) (j k : Nat) (P : Nat → Bool) : Nat := p_c (fun s => !s.testBit j && P (p_S se k s)) (2 ^ k)
theorem p_D_s (se : Nat → Nat) (j k : Nat) (P : Nat → Bool) : p_D se j (k + 1) P = p_D se j k P + (if k = j then 0 else p_D se j k (fun v => P (v + se k))) := by
  unfold p_D
  have hp : 2 ^ (k + 1) = 2 ^ k + 2 ^ k := by rw [Nat.pow_succ]; omega
  rw [hp, p_c_add]
  congr 1
  · refine p_c_c (fun s hs => ?_)
    rw [p_S_s, Nat.testBit_lt_two_pow hs]
    rfl
  · by_cases hk : k = j
    · subst hk
      rw [if_pos rfl]
      refine p_c_0 (fun s hs => ?_)
      rw [Nat.testBit_two_pow_add_eq, Nat.testBit_lt_two_pow hs]
      rfl
    · rw [if_neg hk]
      refine p_c_c (fun s hs => ?_)
      have e1 : p_S se (k + 1) (2 ^ k + s) = p_S se k s + se k := by
        show p_S se k (2 ^ k + s) + (if (2 ^ k + s).testBit k = true then se k else 0) = _
        rw [p_S_lo se k s k (Nat.le_refl _), Nat.testBit_two_pow_add_eq, Nat.testBit_lt_two_pow hs]
        rfl
      have e2 : (2 ^ k + s).testBit j = s.testBit j := by
        by_cases hj : j < k
        · exact Nat.testBit_two_pow_add_gt hj s
        · have hle : 2 ^ (k + 1) ≤ 2 ^ j := Nat.pow_le_pow_right (by decide) (by omega)
          rw [Nat.testBit_lt_two_pow (i := j) (by omega), Nat.testBit_lt_two_pow (i := j) (by omega)]
      rw [e1, e2]
def p_C (se : Nat → Nat) (j k v : Nat) : Nat := p_D se j k (fun u => decide (u = v))
theorem p_C_0 (se : Nat → Nat) (j v : Nat) : p_C se j 0 v = if v = 0 then 1 else 0 := by
  unfold p_C p_D
  show 0 + (if (!(0 : Nat).testBit j && decide ((0 : Nat) = v)) = true then 1 else 0) = _
  rw [Nat.zero_testBit]
  by_cases h : v = 0
  · subst h; rfl
  · have h2 : ¬ 0 = v := fun e => h e.symm
    simp [h, h2]
theorem p_C_s (se : Nat → Nat) (j k v : Nat) : p_C se j (k + 1) v = p_C se j k v + (if k = j then 0 else if se k ≤ v then p_C se j k (v - se k) else 0) := by
  unfold p_C
  rw [p_D_s]
  congr 1
  by_cases hk : k = j
  · rw [if_pos hk, if_pos hk]
  · rw [if_neg hk, if_neg hk]
    by_cases hv : se k ≤ v
    · rw [if_pos hv]
      unfold p_D
      refine p_c_c (fun s _ => ?_)
      congr 1
      exact decide_eq_decide.mpr (by omega)
    · rw [if_neg hv]
      refine p_c_0 (fun s _ => ?_)
      rw [Bool.and_eq_false_iff]
      exact .inr (decide_eq_false (by omega))
theorem p_D_up (se : Nat → Nat) (j k lo hi : Nat) (h : lo ≤ hi) : p_D se j k (fun v => decide (lo ≤ v) && decide (v < hi + 1)) = p_D se j k (fun v => decide (lo ≤ v) && decide (v < hi)) + p_C se j k hi := by
  unfold p_C p_D
  refine p_c_or (fun s _ => ?_)
  cases hb : s.testBit j
  · by_cases h1 : lo ≤ p_S se k s <;> by_cases h2 : p_S se k s < hi <;> by_cases h3 : p_S se k s = hi <;> (first | omega | (refine ⟨?_, ?_⟩ <;> simp [h1, h2, h3] <;> omega))
  · simp
theorem p_D_e (se : Nat → Nat) (j k lo hi : Nat) (h : hi ≤ lo) : p_D se j k (fun v => decide (lo ≤ v) && decide (v < hi)) = 0 := by
  refine p_c_0 (fun s _ => ?_)
  by_cases h1 : lo ≤ p_S se k s
  · have h2 : ¬ p_S se k s < hi := by omega
    simp [h2]
  · simp [h1]
theorem p_S_or (se : Nat → Nat) (j s : Nat) (hb : s.testBit j = false) : ∀ k, p_S se k (s ||| 2 ^ j) = p_S se k s + if j < k then se j else 0
  | 0 => rfl
  | k + 1 => by
    rw [p_S_s, p_S_s, p_S_or se j s hb k, Nat.testBit_or]
    by_cases e : k = j
    · subst e
      rw [hb, Nat.testBit_two_pow_self, if_neg (by omega), if_pos (by omega : k < k + 1)]
      simp
    · rw [Nat.testBit_two_pow_of_ne (by omega), Bool.or_false]
      by_cases hj : j < k
      · rw [if_pos hj, if_pos (by omega : j < k + 1)]; omega
      · rw [if_neg hj, if_neg (by omega : ¬ j < k + 1)]; omega
theorem p_S_le (se : Nat → Nat) (s : Nat) : ∀ k, (∀ i, i < k → se i ≤ 9) → p_S se k s ≤ 9 * k
  | 0, _ => Nat.le_refl _
  | k + 1, h => by
    rw [p_S_s]
    have h1 := p_S_le se s k (fun i hi => h i (by omega))
    have h2 := h k (by omega)
    split <;> omega
theorem R_seals_p (r : Nat → Int32) (se : Nat → Nat) (s : Nat) (hs : s < 2 ^ 31) : ∀ k, k ≤ 30 → (∀ i, i < k → r (12 + 13 * i + 4) = nI (se i)) → R_seals r k (nI s) = nI (p_S se k s)
  | 0, _, _ => rfl
  | k + 1, hk, h => by
    show R_seals r k (nI s) + (if z_bit (nI s) k = true then r (12 + 13 * k + 4) else 0) = _
    rw [R_seals_p r se s hs k (by omega) (fun i hi => h i (by omega)), z_bit_nI s k hs (by omega), h k (by omega), p_S_s]
    split
    · exact nI_add _ _
    · exact Int32.add_zero _
theorem R_pow_p (r : Nat → Int32) (se : Nat → Nat) (n m j Q : Nat) (h : R_ok r n m) (hj : j < n) (hQ : r 5 = nI Q) (hQ2 : Q ≤ 90) (hse : ∀ i, i < n → se i ≤ 9 ∧ r (12 + 13 * i + 4) = nI (se i)) : R_pow r n j = nI (p_D se j n (fun v => decide (Q - se j ≤ v) && decide (v < Q))) := by
  have hn := h.2.1
  have h2n := z_2n hn
  have key : ∀ k, k ≤ 2 ^ n → z_it (R_p1 r n j) k 0 = nI (p_c (fun s => !s.testBit j && (decide (Q - se j ≤ p_S se n s) && decide (p_S se n s < Q))) k) := by
    intro k
    induction k with
    | zero => intro _; rfl
    | succ k ih =>
      intro hk
      show R_p1 r n j k (z_it (R_p1 r n j) k 0) = nI (p_c _ k + _)
      rw [ih (by omega)]
      unfold R_p1
      rw [← nI_add]
      congr 1
      have hse' := fun i hi => (hse i hi).2
      rw [z_shl1 j (by omega), z_nor, z_bit_nI k j (by omega) (by omega), R_seals_p r se k (by omega) n (by omega) hse', hQ]
      have hor : k ||| 2 ^ j < 2 ^ 31 := Nat.or_lt_two_pow (by omega) (Nat.pow_lt_pow_right (by decide) (by omega))
      rw [R_seals_p r se (k ||| 2 ^ j) hor n (by omega) hse']
      have b1 := p_S_le se k n (fun i hi => (hse i hi).1)
      have b2 := (hse j hj).1
      have e0 : nI 0 = (0 : Int32) := rfl
      have e1 : (1 : Int32) = nI 1 := rfl
      cases hb : k.testBit j with
      | true => simp [hb, e0]
      | false =>
        rw [p_S_or se j k hb n, if_pos hj]
        simp only [z_nI_lt (p_S se n k) Q (by omega) (by omega), z_nI_lt (p_S se n k + se j) Q (by omega) (by omega)]
        by_cases c1 : p_S se n k < Q <;> by_cases c2 : p_S se n k + se j < Q
        · have c3 : ¬ Q - se j ≤ p_S se n k := by omega
          simp [c1, c2, c3, hb, e0]
        · have c3 : Q - se j ≤ p_S se n k := by omega
          simp [c1, c2, c3, hb]
          exact e1
        · omega
        · simp [c1, hb, e0]
  exact key (2 ^ n) (Nat.le_refl _)
-- the class counts sums
theorem k_cs32 (X : Sx) (d : Nat) (T : Tt) (C : Nat → Nat) (se : Nat) (hse : se ≤ 9) (v1 v2 : Int32) (hv : ¬ v2 = v1) : ∀ w, w ≤ 91 → ∀ J : Ii, (∀ v, v < w → J 131 v = nI (C v)) → (∀ v, w ≤ v → v ≤ 90 → J 131 v = nI (C v + if se ≤ v then C (v - se) else 0)) → ∃ K o, c_X1_countSumsWithout_128_32 X d v1 v2 (nI se) (nI w + (-1)) J T = c_X1_countSumsWithout_128_19 X d v1 (v2 + 1) (some (.int (nI se))) o K T ∧ z_fr m_cs J K ∧ ∀ v, v ≤ 90 → K 131 v = nI (C v + if se ≤ v then C (v - se) else 0)
  | 0, _, J, _, h2 => by
    refine ⟨J, some (.int (-1)), ?_, z_fr_r _ _, fun v hv => h2 v (by omega) hv⟩
    have e : nI 0 + (-1 : Int32) = -1 := rfl
    have e2 : ((-1 : Int32) < nI se) = True := by
      refine eq_true ?_
      rw [Int32.lt_iff_toInt_lt]
      have e3 : (-1 : Int32).toInt = -1 := rfl
      have := nI_toInt (n := se) (by omega)
      omega
    rw [e, e_X1_countSumsWithout_128_32]
    simp (disch := omega) only [e_X1_countSumsWithout_128_53, hv, e2, q_bd_l, z_ltT, z_ltF, z_eqT, z_eqF, z_ltlT, z_ltlF, z_lltT, z_lltF, z_eqlT, z_eqlF, z_in, z_k7, z_cl, z_lneg, z_llT, z_llF, z_s1, z_nI_cl, z_nlt0, z_ne_m1, z_b0, z_b1, z_la, z_al, z_lm, z_ml, z_nm, nI_add, pk_mul, ↓reduceIte, not_true_eq_false, not_false_eq_true, true_or, or_true, false_or, or_false, true_and, and_true, and_false, false_and, Classical.not_not, Nat.add_zero, z_01, z_em, z_bit_p, Nat.not_le, Nat.not_lt, reduceCtorEq, if_true, if_false]
  | w + 1, hw, J, h1, h2 => by
    have e : nI (w + 1) + (-1 : Int32) = nI w := by
      have e1 : (1 : Int32) + (-1) = 0 := rfl
      rw [← nI_1 w, Int32.add_assoc, e1, Int32.add_zero]
    rw [e, e_X1_countSumsWithout_128_32]
    by_cases hc : w < se
    · refine ⟨J, some (.int (nI w)), ?_, z_fr_r _ _, fun v hv => ?_⟩
      · simp (disch := omega) only [e_X1_countSumsWithout_128_53, hv, q_bd_l, z_ltT, z_ltF, z_eqT, z_eqF, z_ltlT, z_ltlF, z_lltT, z_lltF, z_eqlT, z_eqlF, z_in, z_k7, z_cl, z_lneg, z_llT, z_llF, z_s1, z_nI_cl, z_nlt0, z_ne_m1, z_b0, z_b1, z_la, z_al, z_lm, z_ml, z_nm, nI_add, pk_mul, ↓reduceIte, not_true_eq_false, not_false_eq_true, true_or, or_true, false_or, or_false, true_and, and_true, and_false, false_and, Classical.not_not, Nat.add_zero, z_01, z_em, z_bit_p, Nat.not_le, Nat.not_lt, reduceCtorEq, if_true, if_false]
      · by_cases hv2 : v < w + 1
        · rw [h1 v hv2, if_neg (by omega)]; rfl
        · exact h2 v (by omega) hv
    · have es : nI w - nI se = nI (w - se) := pk_sub (by omega)
      obtain ⟨K, o, k1, k2, k3⟩ := k_cs32 X d T C se hse v1 v2 hv w (by omega) (q_w J 131 w (nI (C w) + nI (C (w - se)))) (fun v hv => by rw [z_w_k _ _ _ _ _ (by omega)]; exact h1 v (by omega)) (fun v hv hv2 => by
        by_cases ev : v = w
        · subst ev; rw [z_w_s, nI_add, if_pos (by omega)]
        · rw [z_w_k _ _ _ _ _ ev]; exact h2 v (by omega) hv2)
      refine ⟨K, o, ?_, z_fr_t (z_fr_w (z_fr_r _ _) 131 w _ rfl) k2, k3⟩
      rw [← k1]
      simp (disch := omega) only [hv, es, h1 w (by omega), h1 (w - se) (by omega), q_bd_l, z_ltT, z_ltF, z_eqT, z_eqF, z_ltlT, z_ltlF, z_lltT, z_lltF, z_eqlT, z_eqlF, z_in, z_k7, z_cl, z_lneg, z_llT, z_llF, z_s1, z_nI_cl, z_nlt0, z_ne_m1, z_b0, z_b1, z_la, z_al, z_lm, z_ml, z_nm, nI_add, pk_mul, ↓reduceIte, not_true_eq_false, not_false_eq_true, true_or, or_true, false_or, or_false, true_and, and_true, and_false, false_and, Classical.not_not, Nat.add_zero, z_01, z_em, z_bit_p, Nat.not_le, Nat.not_lt, reduceCtorEq, if_true, if_false]
theorem k_countSums (X : Sx) (d : Nat) (I : Ii) (T : Tt) (r : Nat → Int32) (se : Nat → Nat) (n m j : Nat) (h : k_H27 I r n m) (hj : j < n) (hse : ∀ i, i < n → se i ≤ 9 ∧ r (12 + 13 * i + 4) = nI (se i)) : ∃ J, c_X1_countSumsWithout_128 X (d + 1) (nI j) I T = z_v J T ∧ z_fr m_cs I J ∧ ∀ v, v ≤ 90 → J 131 v = nI (p_C se j n v) := by
  have hn := h.1.2.1
  rw [e_X1_countSumsWithout_128]
  obtain ⟨A, ⟨a1, a2⟩, a3⟩ := z_foldP (β := Unit) (σ := Ii) (fun k _ J => c_X1_countSumsWithout_128_2 X d (nI j) (nI k) J T) (fun _ u => u) (fun k _ J => z_fr m_cs I J ∧ ∀ v, v < k → J 131 v = 0) 91 (by
    intro k _ J hk hJ
    refine ⟨q_w J 131 k 0, ⟨z_fr_w hJ.1 131 k _ rfl, fun v hv => ?_⟩, ?_⟩
    · by_cases ev : v = k
      · subst ev; rw [z_w_s]
      · rw [z_w_k _ _ _ _ _ ev]; exact hJ.2 v (by omega)
    · rw [e_X1_countSumsWithout_128_2]
      simp (disch := omega) only [q_bd_l, z_ltT, z_ltF, z_eqT, z_eqF, z_ltlT, z_ltlF, z_lltT, z_lltF, z_eqlT, z_eqlF, z_in, z_k7, z_cl, z_lneg, z_llT, z_llF, z_s1, z_nI_cl, z_nlt0, z_ne_m1, z_b0, z_b1, z_la, z_al, z_lm, z_ml, z_nm, nI_add, pk_mul, ↓reduceIte, not_true_eq_false, not_false_eq_true, true_or, or_true, false_or, or_false, true_and, and_true, and_false, false_and, Classical.not_not, Nat.add_zero, z_01, z_em, z_bit_p, Nat.not_le, Nat.not_lt, reduceCtorEq, if_true, if_false]) () I ⟨z_fr_r _ _, fun v hv => by omega⟩
  have hB : z_fr m_cs I (q_w A 131 0 1) := z_fr_w a1 131 0 _ rfl
  obtain ⟨⟨K, o3, o4⟩, ⟨b1, b2⟩, b3⟩ := z_foldP (β := Unit) (σ := Ii × Option Value × Option Value) (fun k _ J => c_X1_countSumsWithout_128_19 X d (nI j) (nI k) J.2.1 J.2.2 J.1 T) (fun _ u => u) (fun k _ J => z_fr m_cs I J.1 ∧ ∀ v, v ≤ 90 → J.1 131 v = nI (p_C se j k v)) n (by
    intro k _ J hk hJ
    obtain ⟨J, p3, p4⟩ := J
    obtain ⟨hJ1, hJ2⟩ := hJ
    have hH : k_H27 J r n m := k_H27_cs h hJ1
    have n3 := k_n3 hH
    have c5 : J 5 k = nI (se k) := (hH.2.1.2.2.2.2.2.2.2.1 k hk).trans (hse k hk).2
    dsimp only at hJ1 hJ2 ⊢
    rw [e_X1_countSumsWithout_128_19]
    by_cases ek : k = j
    · refine ⟨(J, some (.int (nI (se k))), some (.int 90)), ⟨hJ1, fun v hv => ?_⟩, ?_⟩
      · rw [p_C_s, if_pos ek]; exact hJ2 v hv
      · simp (disch := omega) only [e_X1_countSumsWithout_128_32, e_X1_countSumsWithout_128_53, n3, c5, q_bd_l, z_ltT, z_ltF, z_eqT, z_eqF, z_ltlT, z_ltlF, z_lltT, z_lltF, z_eqlT, z_eqlF, z_in, z_k7, z_cl, z_lneg, z_llT, z_llF, z_s1, z_nI_cl, z_nlt0, z_ne_m1, z_b0, z_b1, z_la, z_al, z_lm, z_ml, z_nm, nI_add, pk_mul, ↓reduceIte, not_true_eq_false, not_false_eq_true, true_or, or_true, false_or, or_false, true_and, and_true, and_false, false_and, Classical.not_not, Nat.add_zero, z_01, z_em, z_bit_p, Nat.not_le, Nat.not_lt, reduceCtorEq, if_true, if_false]
    · have ek2 : ¬ nI k = nI j := by rw [z_nI_eq _ _ (by omega) (by omega)]; exact ek
      obtain ⟨K, o, k1, k2, k3⟩ := k_cs32 X d T (p_C se j k) (se k) (hse k hk).1 (nI j) (nI k) ek2 91 (by omega) J (fun v hv => hJ2 v (by omega)) (fun v hv hv2 => by omega)
      refine ⟨(K, some (.int (nI (se k))), o), ⟨z_fr_t hJ1 k2, fun v hv => ?_⟩, ?_⟩
      · rw [p_C_s, if_neg ek]; exact k3 v hv
      · have e90 : nI 91 + (-1 : Int32) = 90 := rfl
        rw [e90] at k1
        simp (disch := omega) only [n3, c5, k1, q_bd_l, z_ltT, z_ltF, z_eqT, z_eqF, z_ltlT, z_ltlF, z_lltT, z_lltF, z_eqlT, z_eqlF, z_in, z_k7, z_cl, z_lneg, z_llT, z_llF, z_s1, z_nI_cl, z_nlt0, z_ne_m1, z_b0, z_b1, z_la, z_al, z_lm, z_ml, z_nm, nI_add, pk_mul, ↓reduceIte, not_true_eq_false, not_false_eq_true, true_or, or_true, false_or, or_false, true_and, and_true, and_false, false_and, Classical.not_not, Nat.add_zero, z_01, z_em, z_bit_p, Nat.not_le, Nat.not_lt, reduceCtorEq, if_true, if_false]) () (q_w A 131 0 1, none, none) ⟨hB, fun v hv => by
      rw [p_C_0]
      show q_w A 131 0 1 131 v = _
      by_cases ev : v = 0
      · subst ev; exact z_w_s A 131 0 1
      · rw [z_w_k _ _ _ _ _ ev, if_neg ev]; exact a2 v (by omega)⟩
  refine ⟨K, ?_, b1, b2⟩
  refine a3.trans ?_
  rw [e_X1_countSumsWithout_128_2]
  simp (disch := omega) only [q_bd_l, z_ltT, z_ltF, z_eqT, z_eqF, z_ltlT, z_ltlF, z_lltT, z_lltF, z_eqlT, z_eqlF, z_in, z_k7, z_cl, z_lneg, z_llT, z_llF, z_s1, z_nI_cl, z_nlt0, z_ne_m1, z_b0, z_b1, z_la, z_al, z_lm, z_ml, z_nm, nI_add, pk_mul, ↓reduceIte, not_true_eq_false, not_false_eq_true, true_or, or_true, false_or, or_false, true_and, and_true, and_false, false_and, Classical.not_not, Nat.add_zero, z_01, z_em, z_bit_p, Nat.not_le, Nat.not_lt, reduceCtorEq, if_true, if_false]
  refine b3.trans ?_
  have n3 := k_n3 (k_H27_cs h b1)
  dsimp only at n3 ⊢
  rw [e_X1_countSumsWithout_128_19]
  simp (disch := omega) only [n3, q_bd_l, z_ltT, z_ltF, z_eqT, z_eqF, z_ltlT, z_ltlF, z_lltT, z_lltF, z_eqlT, z_eqlF, z_in, z_k7, z_cl, z_lneg, z_llT, z_llF, z_s1, z_nI_cl, z_nlt0, z_ne_m1, z_b0, z_b1, z_la, z_al, z_lm, z_ml, z_nm, nI_add, pk_mul, ↓reduceIte, not_true_eq_false, not_false_eq_true, true_or, or_true, false_or, or_false, true_and, and_true, and_false, false_and, Classical.not_not, Nat.add_zero, z_01, z_em, z_bit_p, Nat.not_le, Nat.not_lt, reduceCtorEq, if_true, if_false]
theorem k_pow19 (X : Sx) (d : Nat) (T : Tt) (K : Ii) (se : Nat → Nat) (n j lo Q : Nat) (v1 v3 : Int32) (hQ : K 3 9 = nI Q) (hQ2 : Q ≤ 90) (hK : ∀ v, v ≤ 90 → K 131 v = nI (p_C se j n v)) (hlo : lo ≤ Q) : c_X1_powerOf_128_19 X d v1 0 v3 (nI lo) K T = z_r (nI (p_D se j n (fun v => decide (lo ≤ v) && decide (v < Q)))) K T := by
  have key : ∀ k, lo + k ≤ Q → c_X1_powerOf_128_19 X d v1 0 v3 (nI lo) K T = c_X1_powerOf_128_19 X d v1 (nI (p_D se j n (fun v => decide (lo ≤ v) && decide (v < lo + k)))) v3 (nI (lo + k)) K T := by
    intro k
    induction k with
    | zero => intro _; rw [p_D_e se j n lo (lo + 0) (by omega)]; rfl
    | succ k ih =>
      intro hk
      rw [ih (by omega), e_X1_powerOf_128_19]
      have e := p_D_up se j n lo (lo + k) (by omega)
      have e2 : nI (p_D se j n (fun v => decide (lo ≤ v) && decide (v < lo + k)) + p_C se j n (lo + k)) = nI (p_D se j n (fun v => decide (lo ≤ v) && decide (v < lo + k))) + K 131 (lo + k) := by rw [hK (lo + k) (by omega), nI_add]
      rw [show lo + (k + 1) = lo + k + 1 from rfl, e, e2]
      generalize nI (p_D se j n (fun v => decide (lo ≤ v) && decide (v < lo + k))) = Z
      simp (disch := omega) only [hQ, q_bd_l, z_ltT, z_ltF, z_eqT, z_eqF, z_ltlT, z_ltlF, z_lltT, z_lltF, z_eqlT, z_eqlF, z_in, z_k7, z_cl, z_lneg, z_llT, z_llF, z_s1, z_nI_cl, z_nlt0, z_ne_m1, z_b0, z_b1, z_la, z_al, z_lm, z_ml, z_nm, nI_add, pk_mul, ↓reduceIte, not_true_eq_false, not_false_eq_true, true_or, or_true, false_or, or_false, true_and, and_true, and_false, false_and, Classical.not_not, Nat.add_zero, z_01, z_em, z_bit_p, Nat.not_le, Nat.not_lt, reduceCtorEq, if_true, if_false]
  have e : lo + (Q - lo) = Q := by omega
  have k2 := key (Q - lo) (by omega)
  rw [e] at k2
  rw [k2, e_X1_powerOf_128_19]
  simp (disch := omega) only [e_X1_powerOf_128_3, k_X1_powerOf_128_3, e_X1_powerOf_128_36, hQ, q_bd_l, z_ltT, z_ltF, z_eqT, z_eqF, z_ltlT, z_ltlF, z_lltT, z_lltF, z_eqlT, z_eqlF, z_in, z_k7, z_cl, z_lneg, z_llT, z_llF, z_s1, z_nI_cl, z_nlt0, z_ne_m1, z_b0, z_b1, z_la, z_al, z_lm, z_ml, z_nm, nI_add, pk_mul, ↓reduceIte, not_true_eq_false, not_false_eq_true, true_or, or_true, false_or, or_false, true_and, and_true, and_false, false_and, Classical.not_not, Nat.add_zero, z_01, z_em, z_bit_p, Nat.not_le, Nat.not_lt, reduceCtorEq, if_true, if_false]
theorem k_powerOf (X : Sx) (d : Nat) (I : Ii) (T : Tt) (r : Nat → Int32) (n m j : Nat) (h : k_H27 I r n m) (hj : j < n) : ∃ J, c_X1_powerOf_128 X (d + 2) (nI j) I T = z_r (R_pow r n j) J T ∧ z_fr m_cs I J := by
  have hn := h.1.2.1
  obtain ⟨Q, -, hQ2, hQ⟩ := h.1.2.2.2.2.2.1
  have hx : ∀ i, ∃ y, i < n → y ≤ 9 ∧ r (12 + 13 * i + 4) = nI y := by
    intro i
    by_cases hi : i < n
    · obtain ⟨y, hy, ey⟩ := (h.1.2.2.2.2.2.2.2.2.2.2.1 i hi).2.2.2.2.1
      exact ⟨y, fun _ => ⟨hy, ey⟩⟩
    · exact ⟨0, fun h => absurd h hi⟩
  obtain ⟨se, hse⟩ := Classical.axiomOfChoice hx
  obtain ⟨J, j1, j2, j3⟩ := k_countSums X d I T r se n m j h hj hse
  have hJ := k_H27_cs h j2
  have c9 : J 3 9 = nI Q := hJ.2.1.2.2.1.trans hQ
  have c5 : J 5 j = nI (se j) := (hJ.2.1.2.2.2.2.2.2.2.1 j hj).trans (hse j hj).2
  have b2 := (hse j hj).1
  refine ⟨J, ?_, j2⟩
  rw [R_pow_p r se n m j Q h.1 hj hQ hQ2 hse, e_X1_powerOf_128, j1]
  have em : (if (0 : Int32) < nI Q - nI (se j) then nI Q - nI (se j) else 0) = nI (Q - se j) := by
    by_cases hc : se j ≤ Q
    · rw [pk_sub hc]
      by_cases hc2 : 0 < Q - se j
      · exact if_pos (nI_lt (a := 0) hc2 (by omega))
      · have : Q - se j = 0 := by omega
        rw [this]; rfl
    · have : Q - se j = 0 := by omega
      rw [this]
      refine if_neg ?_
      rw [Int32.lt_iff_toInt_lt]
      have t1 := nI_toInt (n := Q) (by omega)
      have t2 := nI_toInt (n := se j) (by omega)
      have t3 : (nI Q - nI (se j)).toInt = (Q : Int) - se j := by
        rw [Int32.toInt_sub, t1, t2]
        exact Int.bmod_eq_of_le (by omega) (by omega)
      have t0 : (0 : Int32).toInt = 0 := rfl
      omega
  simp (disch := omega) only [e_X1_powerOf_128_3, k_X1_powerOf_128_3, c9, c5, q_bd_l, z_ltT, z_ltF, z_eqT, z_eqF, z_ltlT, z_ltlF, z_lltT, z_lltF, z_eqlT, z_eqlF, z_in, z_k7, z_cl, z_lneg, z_llT, z_llF, z_s1, z_nI_cl, z_nlt0, z_ne_m1, z_b0, z_b1, z_la, z_al, z_lm, z_ml, z_nm, nI_add, pk_mul, ↓reduceIte, not_true_eq_false, not_false_eq_true, true_or, or_true, false_or, or_false, true_and, and_true, and_false, false_and, Classical.not_not, Nat.add_zero, z_01, z_em, z_bit_p, Nat.not_le, Nat.not_lt, reduceCtorEq, if_true, if_false]
  rw [em]
  exact k_pow19 X _ T J se n j (Q - se j) Q _ _ c9 hQ2 j3 (by omega)
theorem k_powerless (X : Sx) (d : Nat) (I : Ii) (T : Tt) (r : Nat → Int32) (n m : Nat) (h : k_H27 I r n m) : ∃ J, c_X1_powerless_128 X (d + 3) I T = z_r (z_set (fun j => decide (R_pow r n j = 0)) n) J T ∧ z_fr m_cs I J := by
  have hn := h.1.2.1
  rw [e_X1_powerless_128]
  obtain ⟨K, k1, k2⟩ := z_foldP (β := Int32) (σ := Ii) (fun k a J => c_X1_powerless_128_4 X (d + 2) a (nI k) J T) (fun k a => a ||| (if decide (R_pow r n k = 0) = true then (1 : Int32) <<< (nI k &&& 31) else 0)) (fun k _ J => z_fr m_cs I J) n (by
    intro k a J hk hJ
    have hH := k_H27_cs h hJ
    have n3 := k_n3 hH
    obtain ⟨K, k1, k2⟩ := k_powerOf X d J T r n m k hH hk
    refine ⟨K, z_fr_t hJ k2, ?_⟩
    rw [e_X1_powerless_128_4]
    by_cases hc : R_pow r n k = 0 <;> simp (disch := omega) only [e_X1_powerless_128_13, k_X1_powerless_128_13, e_X1_powerless_128_19, n3, k1, hc, q_bd_l, z_ltT, z_ltF, z_eqT, z_eqF, z_ltlT, z_ltlF, z_lltT, z_lltF, z_eqlT, z_eqlF, z_in, z_k7, z_cl, z_lneg, z_llT, z_llF, z_s1, z_nI_cl, z_nlt0, z_ne_m1, z_b0, z_b1, z_la, z_al, z_lm, z_ml, z_nm, nI_add, pk_mul, ↓reduceIte, not_true_eq_false, not_false_eq_true, true_or, or_true, false_or, or_false, true_and, and_true, and_false, false_and, Classical.not_not, Nat.add_zero, z_01, z_em, z_bit_p, Nat.not_le, Nat.not_lt, reduceCtorEq, if_true, if_false, decide_true, decide_false, Bool.and_true, Bool.and_false, Bool.true_and, Bool.false_and, Bool.or_true, Bool.or_false, Bool.true_or, Bool.false_or, Bool.false_eq_true, ne_eq, Bool.not_true, Bool.not_false, decide_not]) 0 I (z_fr_r _ _)
  refine ⟨K, ?_, k1⟩
  refine k2.trans ?_
  rw [e_X1_powerless_128_4]
  simp (disch := omega) only [k_n3 (k_H27_cs h k1), q_bd_l, z_ltT, z_ltF, z_eqT, z_eqF, z_ltlT, z_ltlF, z_lltT, z_lltF, z_eqlT, z_eqlF, z_in, z_k7, z_cl, z_lneg, z_llT, z_llF, z_s1, z_nI_cl, z_nlt0, z_ne_m1, z_b0, z_b1, z_la, z_al, z_lm, z_ml, z_nm, nI_add, pk_mul, ↓reduceIte, not_true_eq_false, not_false_eq_true, true_or, or_true, false_or, or_false, true_and, and_true, and_false, false_and, Classical.not_not, Nat.add_zero, z_01, z_em, z_bit_p, Nat.not_le, Nat.not_lt, reduceCtorEq, if_true, if_false]
  rfl
