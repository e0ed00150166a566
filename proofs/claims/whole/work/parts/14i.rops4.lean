/-! ===== THE REFERENCE: years ahead, trials, counts ===== -/
/-- so many years ahead -/
def R_ahs (n m : Nat) (r : Nat → Int32) : Nat → Int32 := z_it (fun _ r => R_ah n r) m r
theorem R_ahs_g {n m : Nat} {r : Nat → Int32} (h : R_g n r) : R_g n (R_ahs n m r) := z_it_P h (fun k a _ ha => R_ah_g ha)
theorem R_hi_ahs {n m : Nat} {r s : Nat → Int32} (hn : n ≤ 10) (h : R_hi r s) : R_hi r (R_ahs n m s) := z_it_P (P := R_hi r) h (fun k a _ ha => R_hi_ah hn ha)
/-- the mask of a question that has put all aside -/
def m_q1 (a k : Nat) : Bool := m_r a k || (a == 139 && k == 0) || a == 142
theorem z_q1q {I J : Ii} (h : z_fr m_q1 I J) : z_fr m_q I J := z_fr_m h (fun a k h => by
  simp [m_q1] at h
  simp [m_q, h])
theorem m_q1_of {a k : Nat} (h : m_q a k = false) : m_q1 a k = false := by
  simp [m_q] at h
  simp [m_q1, h]
  exact h.1.1.1.1.1.2
def m_qa (a k : Nat) : Bool := m_q1 a k || a == 140
theorem z_fr_ryq {I J : Ii} (h : z_fr m_ry I J) : z_fr m_qa I J := z_fr_m h (fun a k h => by
  simp [m_ry] at h
  rcases h with h | h <;> simp [m_qa, m_q1, h])
/-- behind what was put aside: back again, nothing but its own has changed -/
theorem z_back2 {I J L : Ii} (h1 : z_fr m_qa I J) (h2 : ∀ k, k < 484 → J 142 k = I 140 k) (h4 : R_hi (I 140) (J 140)) (h5 : z_fr (fun a _ => a == 140) J L) (h6 : ∀ k, k < 484 → L 140 k = J 142 k) (h7 : ∀ k, 484 ≤ k → L 140 k = J 140 k) : z_fr m_q1 I L := by
  intro a k hm
  by_cases e : a = 140
  · subst e
    rcases Nat.lt_or_ge k 484 with hk | hk
    · rw [h6 k hk, h2 k hk]
    · rw [h7 k hk, h4 k hk]
  · have h8 : L a k = J a k := h5 a k (by simpa using e)
    rw [h8, h1 a k (by simp [m_qa, hm, e])]
theorem z_ry142 {I J : Ii} (h : z_fr m_ry I J) (k : Nat) : J 142 k = I 142 k := h 142 k (by simp [m_ry, m_r])
theorem z_ry0 {I J : Ii} (h : z_fr m_ry I J) : J 139 0 = I 139 0 := h 139 0 (by simp [m_ry, m_r])
/-- a state in such a question: what was put aside, the row as it is by now -/
def z_as (I : Ii) (n : Nat) (r : Nat → Int32) (J : Ii) : Prop := z_fr m_qa I J ∧ (∀ k, k < 484 → J 142 k = I 140 k) ∧ R_hi (I 140) (J 140) ∧ J 140 = r ∧ R_g n r ∧ J 139 0 = 0
theorem z_as_ry {I J K : Ii} {n : Nat} {r r' : Nat → Int32} (h : z_as I n r J) (hf : z_fr m_ry J K) (hr : K 140 = r') (hg : R_g n r') (hh : R_hi (I 140) r') : z_as I n r' K := by
  obtain ⟨h1, h2, h3, h4, h5, h6⟩ := h
  exact ⟨z_fr_t h1 (z_fr_ryq hf), fun k hk => by rw [z_ry142 hf]; exact h2 k hk, by rw [hr]; exact hh, hr, hg, by rw [z_ry0 hf]; exact h6⟩
theorem z_as_r {I J K : Ii} {n : Nat} {r : Nat → Int32} (h : z_as I n r J) (hf : z_fr m_r J K) : z_as I n r K := z_as_ry h (z_fr_ry hf) ((z_r140 hf).trans h.2.2.2.1) h.2.2.2.2.1 (by rw [← h.2.2.2.1]; exact h.2.2.1)
theorem l_as0 (X : Sx) (d : Nat) (I : Ii) (T : Tt) (n : Nat) (h : R_g n (I 140)) : ∃ J, c_X12_putsAside_139 X (d + 1) (q_w I 139 0 0) T = z_v J T ∧ z_as I n (I 140) J := by
  obtain ⟨J, h1, h2, h3⟩ := l_aside X d (q_w I 139 0 0) T
  have e : (q_w I 139 0 0) 140 = I 140 := z_w_a _ _ _ _ _ (by decide)
  have e2 : J 140 = I 140 := (z_fr_row h2 140 (fun _ => rfl)).trans e
  refine ⟨J, h1, z_fr_t (z_fr_w (z_fr_r _ _) 139 0 0 rfl) (z_fr_m h2 (fun a k h => by simp at h; simp [m_qa, m_q1, h])), fun k hk => by rw [h3 k hk, e], by rw [e2]; exact R_hi_r _, e2, h, ?_⟩
  rw [h2 139 0 rfl]; exact z_w_s _ _ _ _
theorem l_asB1 (X : Sx) (d : Nat) (I J : Ii) (T : Tt) {n : Nat} {r : Nat → Int32} (h : z_as I n r J) : ∃ L, c_X12_comesBack_139 X (d + 1) J T = z_v L T ∧ z_fr m_q1 I L ∧ L 139 0 = 0 := by
  obtain ⟨L, l1, l2, l3, l4⟩ := l_back X d J T
  obtain ⟨h1, h2, h3, h4, h5, h6⟩ := h
  exact ⟨L, l1, z_back2 h1 h2 h3 l2 l3 l4, (l2 139 0 rfl).trans h6⟩
theorem l_asB (X : Sx) (d : Nat) (I J : Ii) (T : Tt) {n : Nat} {r : Nat → Int32} (h : z_as I n r J) : ∃ L, c_X12_comesBack_139 X (d + 1) J T = z_v L T ∧ z_fr m_q I L ∧ L 139 0 = 0 := by
  obtain ⟨L, l1, l2, l3⟩ := l_asB1 X d I J T h
  exact ⟨L, l1, z_q1q l2, l3⟩
theorem l_asAh (X : Sx) (d : Nat) (I J : Ii) (T : Tt) {n : Nat} {r : Nat → Int32} (h : z_as I n r J) : ∃ K, c_X12_ahead_139 X (d + 36) J T = z_v K T ∧ z_as I n (R_ah n r) K := by
  obtain ⟨h1, h2, h3, h4, h5, h6⟩ := id h
  subst h4
  obtain ⟨K, k1, k2, k3⟩ := l_ahV X d J T n h5
  exact ⟨K, k1, z_as_ry h k2 k3 (R_ah_g h5) (R_hi_ah h5.2.1 h3)⟩
theorem l_asAdv (X : Sx) (d : Nat) (I J : Ii) (T : Tt) {n : Nat} {r : Nat → Int32} (h : z_as I n r J) (j t : Nat) (hj : j < n) (ht : t < 6) : ∃ K, c_X12_adviceOf_139 X (d + 34) (nI j) (nI t) J T = z_r (R_adv r j t) K T ∧ z_as I n r K := by
  obtain ⟨h1, h2, h3, h4, h5, h6⟩ := id h
  subst h4
  have := h5.2.1
  obtain ⟨K, k1, k2⟩ := l_adv X d J T j t (by omega) ht h5.2.2
  exact ⟨K, k1, z_as_r h k2⟩
-- answers
def R_an1 (n k : Nat) (r : Nat → Int32) : Int32 := z_set (fun j => decide (0 < r (12 + 13 * j + 2)) && decide (¬ R_adv r j (r (154 + 3 * k + 1)).toNatClampNeg < r (154 + 3 * k + 2))) n
def R_ans (r : Nat → Int32) (n k : Nat) : Int32 := if ¬ r (154 + 3 * k) - r 8 < 0 ∧ ¬ 40 < r (154 + 3 * k) - r 8 then R_an1 n k (R_ahs n (r (154 + 3 * k) - r 8).toNatClampNeg r) else 0
theorem R_ah_nd {n : Nat} (hn : n ≤ 10) {r : Nat → Int32} {i : Nat} (hi : 142 ≤ i) : R_ah n r i = r i := by
  have up : ∀ (s : Nat → Int32) (k : Nat) (v : Int32), k < 142 → s i = r i → va_up s k v i = r i := fun s k v hk hs => by
    unfold va_up; rw [if_neg (by omega)]; exact hs
  have key : R_sours n r i = r i := by
    refine z_it_P (P := fun (s : Nat → Int32) => s i = r i) rfl (fun k s hk hs => ?_)
    show R_sj n k s i = r i
    unfold R_sj
    split
    · exact up _ _ _ (by omega) hs
    · refine z_it_P (P := fun (s : Nat → Int32) => s i = r i) (up _ _ _ (by omega) (up _ _ _ (by omega) hs)) (fun o s ho hs => ?_)
      show R_sp k o s i = r i
      unfold R_sp
      split
      · exact up _ _ _ (by omega) hs
      · exact hs
  exact up _ _ _ (by omega) key
theorem R_ahs_nd {n m : Nat} (hn : n ≤ 10) {r : Nat → Int32} {i : Nat} (hi : 142 ≤ i) : R_ahs n m r i = r i := z_it_P (P := fun (s : Nat → Int32) => s i = r i) rfl (fun k s _ hs => (R_ah_nd hn hi).trans hs)
theorem l_answers1 (X : Sx) (d : Nat) (I : Ii) (T : Tt) (n k : Nat) (h : R_g n (I 140)) (hk : k < 10) (h0 : I 139 0 = 0) (hm : z_le (I 140 (154 + 3 * k + 1)) 5) : ∃ K, c_X12_answers_139 X (d + 37) (nI k) I T = z_r (R_ans (I 140) n k) K T ∧ K 139 0 = 0 ∧ z_fr m_q1 I K := by
  have h10 := h.2.1
  rw [e_X12_answers_139]
  unfold R_ans
  by_cases hc : ¬ I 140 (154 + 3 * k) - I 140 8 < 0 ∧ ¬ 40 < I 140 (154 + 3 * k) - I 140 8
  · have hc' := eq_true hc
    rw [if_pos hc]
    obtain ⟨m, hm1, hm2⟩ : ∃ m, m ≤ 40 ∧ I 140 (154 + 3 * k) - I 140 8 = nI m := by
      obtain ⟨j, hj, e⟩ := nI_of hc.1
      refine ⟨j, ?_, e⟩
      have h2 := hc.2
      rw [e, show (40 : Int32) = nI 40 from rfl, z_nI_lt 40 j (by omega) hj] at h2
      omega
    have e0 : q_w I 139 0 0 = I := z_w_id h0
    obtain ⟨J, j1, j2⟩ := l_as0 X (d + 35) I T n h
    rw [e0] at j1
    obtain ⟨K, k1, k4⟩ := z_foldP (β := Nat → Int32) (σ := Ii) (fun i r K => c_X12_answers_139_21 X (d + 36) (nI k) (nI m) (nI i) K T) (fun _ r => R_ah n r) (fun i r K => z_as I n r K ∧ ∀ i, 142 ≤ i → r i = I 140 i) m (by
      intro i r K hi hK
      obtain ⟨L, l1, l2⟩ := l_asAh X d I K T hK.1
      refine ⟨L, ⟨l2, fun i hi => (R_ah_nd h10 hi).trans (hK.2 i hi)⟩, ?_⟩
      rw [e_X12_answers_139_21]
      simp (disch := omega) only [e_X12_answers_139_4, k_X12_answers_139_4, e_X12_answers_139_14, k_X12_answers_139_14, e_X12_answers_139_19, k_X12_answers_139_19, e_X12_answers_139_26, k_X12_answers_139_26, e_X12_answers_139_43, k_X12_answers_139_43, e_X12_answers_139_50, k_X12_answers_139_50, e_X12_answers_139_51, k_X12_answers_139_51, e_X12_answers_139_55, k_X12_answers_139_55, e_X12_answers_139_60, e_X12_answers_139_61, e_X12_answers_139_67, k_X12_answers_139_67, l1, q_bd_l, z_ltT, z_ltF, z_eqT, z_eqF, z_ltlT, z_ltlF, z_lltT, z_lltF, z_eqlT, z_eqlF, z_in, z_k7, z_cl, z_lneg, z_llT, z_llF, z_s1, z_nI_cl, z_nlt0, z_ne_m1, z_b0, z_b1, z_la, z_al, z_lm, z_ml, z_nm, nI_add, pk_mul, ↓reduceIte, not_true_eq_false, not_false_eq_true, true_or, or_true, false_or, or_false, true_and, and_true, and_false, false_and, Classical.not_not, Nat.add_zero, z_01, z_em, z_bit_p, Nat.not_le, Nat.not_lt, reduceCtorEq, if_true, if_false]) (I 140) J ⟨j2, fun _ _ => rfl⟩
    have er : z_it (fun _ r => R_ah n r) m (I 140) = R_ahs n m (I 140) := rfl
    rw [er] at k1
    rw [hm2, nI_clamp (by omega)]
    obtain ⟨k1, kn⟩ := k1
    have m1 := kn (154 + 3 * k + 1) (by omega)
    have m2 := kn (154 + 3 * k + 2) (by omega)
    obtain ⟨t, ht1, ht2⟩ := hm
    rw [ht2] at m1
    generalize R_ahs n m (I 140) = r at *
    obtain ⟨L, l1, l4⟩ := z_foldP (β := Int32) (σ := Ii) (fun j a L => c_X12_answers_139_32 X (d + 36) (nI k) (nI m) a (nI j) L T) (fun j a => a ||| (if (decide (0 < r (12 + 13 * j + 2)) && decide (¬ R_adv r j (r (154 + 3 * k + 1)).toNatClampNeg < r (154 + 3 * k + 2))) = true then (1 : Int32) <<< (nI j &&& 31) else 0)) (fun _ _ L => z_as I n r L) n (by
      intro j a L hj hL
      have e140 := hL.2.2.2.1
      have n3 : L 140 3 = nI n := by rw [e140]; exact hL.2.2.2.2.1.1
      rw [e_X12_answers_139_32, m1, nI_clamp (by omega)]
      by_cases hs : 0 < r (12 + 13 * j + 2)
      · obtain ⟨M, a1, a2⟩ := l_asAdv X (d + 2) I L T hL j t hj (by omega)
        have e141 := a2.2.2.2.1
        refine ⟨M, a2, ?_⟩
        by_cases ha : R_adv r j t < r (154 + 3 * k + 2) <;> simp (disch := omega) only [e_X12_answers_139_4, k_X12_answers_139_4, e_X12_answers_139_14, k_X12_answers_139_14, e_X12_answers_139_19, k_X12_answers_139_19, e_X12_answers_139_26, k_X12_answers_139_26, e_X12_answers_139_43, k_X12_answers_139_43, e_X12_answers_139_50, k_X12_answers_139_50, e_X12_answers_139_51, k_X12_answers_139_51, e_X12_answers_139_55, k_X12_answers_139_55, e_X12_answers_139_60, e_X12_answers_139_61, e_X12_answers_139_67, k_X12_answers_139_67, n3, l_of, l_ofNeed, e140, e141, hs, m1, a1, ha, q_bd_l, z_ltT, z_ltF, z_eqT, z_eqF, z_ltlT, z_ltlF, z_lltT, z_lltF, z_eqlT, z_eqlF, z_in, z_k7, z_cl, z_lneg, z_llT, z_llF, z_s1, z_nI_cl, z_nlt0, z_ne_m1, z_b0, z_b1, z_la, z_al, z_lm, z_ml, z_nm, nI_add, pk_mul, ↓reduceIte, not_true_eq_false, not_false_eq_true, true_or, or_true, false_or, or_false, true_and, and_true, and_false, false_and, Classical.not_not, Nat.add_zero, z_01, z_em, z_bit_p, Nat.not_le, Nat.not_lt, reduceCtorEq, if_true, if_false, decide_true, decide_false, Bool.and_true, Bool.and_false, Bool.true_and, Bool.false_and, Bool.or_true, Bool.or_false, Bool.true_or, Bool.false_or, Bool.false_eq_true, ne_eq, Bool.not_true, Bool.not_false, decide_not]
      · refine ⟨L, hL, ?_⟩
        simp (disch := omega) only [e_X12_answers_139_4, k_X12_answers_139_4, e_X12_answers_139_14, k_X12_answers_139_14, e_X12_answers_139_19, k_X12_answers_139_19, e_X12_answers_139_26, k_X12_answers_139_26, e_X12_answers_139_43, k_X12_answers_139_43, e_X12_answers_139_50, k_X12_answers_139_50, e_X12_answers_139_51, k_X12_answers_139_51, e_X12_answers_139_55, k_X12_answers_139_55, e_X12_answers_139_60, e_X12_answers_139_61, e_X12_answers_139_67, k_X12_answers_139_67, n3, l_of, e140, hs, q_bd_l, z_ltT, z_ltF, z_eqT, z_eqF, z_ltlT, z_ltlF, z_lltT, z_lltF, z_eqlT, z_eqlF, z_in, z_k7, z_cl, z_lneg, z_llT, z_llF, z_s1, z_nI_cl, z_nlt0, z_ne_m1, z_b0, z_b1, z_la, z_al, z_lm, z_ml, z_nm, nI_add, pk_mul, ↓reduceIte, not_true_eq_false, not_false_eq_true, true_or, or_true, false_or, or_false, true_and, and_true, and_false, false_and, Classical.not_not, Nat.add_zero, z_01, z_em, z_bit_p, Nat.not_le, Nat.not_lt, reduceCtorEq, if_true, if_false, decide_true, decide_false, Bool.and_true, Bool.and_false, Bool.true_and, Bool.false_and, Bool.or_true, Bool.or_false, Bool.true_or, Bool.false_or, Bool.false_eq_true, ne_eq, Bool.not_true, Bool.not_false, decide_not]) 0 K k1
    obtain ⟨M, b1, b2, b3⟩ := l_asB1 X (d + 35) I L T l1
    have n3L : L 140 3 = nI n := by rw [l1.2.2.2.1]; exact l1.2.2.2.2.1.1
    refine ⟨M, ?_, b3, b2⟩
    have st : q_bd (c_X12_ofNeed_139 X (d + 36) (nI k) 0 I T) (fun v9 h' => q_res X q_sb q_pg (d + 36) cd_X12_answers 4 [some (.ref 139), some (.int (nI k)), none, none, none] (v9.toList ++ []) h') = c_X12_answers_139_21 X (d + 36) (nI k) (nI m) (nI 0) J T := by
      simp (disch := omega) only [e_X12_answers_139_4, e_X12_answers_139_14, e_X12_answers_139_19, k_X12_answers_139_4, k_X12_answers_139_14, k_X12_answers_139_19, l_ofNeed, l_isIn, hc', hm2, j1, q_bd_l, z_ltT, z_ltF, z_eqT, z_eqF, z_ltlT, z_ltlF, z_lltT, z_lltF, z_eqlT, z_eqlF, z_in, z_k7, z_cl, z_lneg, z_llT, z_llF, z_s1, z_nI_cl, z_nlt0, z_ne_m1, z_b0, z_b1, z_la, z_al, z_lm, z_ml, z_nm, nI_add, pk_mul, ↓reduceIte, not_true_eq_false, not_false_eq_true, true_or, or_true, false_or, or_false, true_and, and_true, and_false, false_and, Classical.not_not, Nat.add_zero, z_01, z_em, z_bit_p, Nat.not_le, Nat.not_lt, reduceCtorEq, if_true, if_false]
      rfl
    rw [st]
    refine k4.trans ?_
    rw [e_X12_answers_139_21]
    simp (disch := omega) only [q_bd_l, z_ltT, z_ltF, z_eqT, z_eqF, z_ltlT, z_ltlF, z_lltT, z_lltF, z_eqlT, z_eqlF, z_in, z_k7, z_cl, z_lneg, z_llT, z_llF, z_s1, z_nI_cl, z_nlt0, z_ne_m1, z_b0, z_b1, z_la, z_al, z_lm, z_ml, z_nm, nI_add, pk_mul, ↓reduceIte, not_true_eq_false, not_false_eq_true, true_or, or_true, false_or, or_false, true_and, and_true, and_false, false_and, Classical.not_not, Nat.add_zero, z_01, z_em, z_bit_p, Nat.not_le, Nat.not_lt, reduceCtorEq, if_true, if_false]
    refine l4.trans ?_
    rw [e_X12_answers_139_32]
    simp (disch := omega) only [e_X12_answers_139_4, k_X12_answers_139_4, e_X12_answers_139_14, k_X12_answers_139_14, e_X12_answers_139_19, k_X12_answers_139_19, e_X12_answers_139_26, k_X12_answers_139_26, e_X12_answers_139_43, k_X12_answers_139_43, e_X12_answers_139_50, k_X12_answers_139_50, e_X12_answers_139_51, k_X12_answers_139_51, e_X12_answers_139_55, k_X12_answers_139_55, e_X12_answers_139_60, e_X12_answers_139_61, e_X12_answers_139_67, k_X12_answers_139_67, n3L, b1, q_bd_l, z_ltT, z_ltF, z_eqT, z_eqF, z_ltlT, z_ltlF, z_lltT, z_lltF, z_eqlT, z_eqlF, z_in, z_k7, z_cl, z_lneg, z_llT, z_llF, z_s1, z_nI_cl, z_nlt0, z_ne_m1, z_b0, z_b1, z_la, z_al, z_lm, z_ml, z_nm, nI_add, pk_mul, ↓reduceIte, not_true_eq_false, not_false_eq_true, true_or, or_true, false_or, or_false, true_and, and_true, and_false, false_and, Classical.not_not, Nat.add_zero, z_01, z_em, z_bit_p, Nat.not_le, Nat.not_lt, reduceCtorEq, if_true, if_false]
    rfl
  · have hc' := eq_false hc
    rw [if_neg hc]
    refine ⟨I, ?_, h0, z_fr_r _ _⟩
    simp (disch := omega) only [e_X12_answers_139_4, e_X12_answers_139_14, e_X12_answers_139_19, k_X12_answers_139_4, k_X12_answers_139_14, k_X12_answers_139_19, l_ofNeed, l_isIn, hc', q_bd_l, z_ltT, z_ltF, z_eqT, z_eqF, z_ltlT, z_ltlF, z_lltT, z_lltF, z_eqlT, z_eqlF, z_in, z_k7, z_cl, z_lneg, z_llT, z_llF, z_s1, z_nI_cl, z_nlt0, z_ne_m1, z_b0, z_b1, z_la, z_al, z_lm, z_ml, z_nm, nI_add, pk_mul, ↓reduceIte, not_true_eq_false, not_false_eq_true, true_or, or_true, false_or, or_false, true_and, and_true, and_false, false_and, Classical.not_not, Nat.add_zero, z_01, z_em, z_bit_p, Nat.not_le, Nat.not_lt, reduceCtorEq, if_true, if_false]
theorem l_answers (X : Sx) (d : Nat) (I : Ii) (T : Tt) (n k : Nat) (h : R_g n (I 140)) (hk : k < 10) (h0 : I 139 0 = 0) (hm : z_le (I 140 (154 + 3 * k + 1)) 5) : ∃ K, c_X12_answers_139 X (d + 37) (nI k) I T = z_r (R_ans (I 140) n k) K T ∧ K 139 0 = 0 ∧ z_fr m_q I K := by
  obtain ⟨K, k1, k2, k3⟩ := l_answers1 X d I T n k h hk h0 hm
  exact ⟨K, k1, k2, z_q1q k3⟩
theorem l_unmet (X : Sx) (d : Nat) (I : Ii) (T : Tt) (n m : Nat) (h : R_g n (I 140)) (h4 : I 140 4 = nI m) (hm : m ≤ 10) (hq : ∀ k, k < m → z_le (I 140 (154 + 3 * k + 1)) 5) : ∃ K, c_X12_unmet_139 X (d + 38) I T = z_r (z_f1 (fun k => decide (R_ans (I 140) n k = 0)) m) K T ∧ K 139 0 = 0 ∧ z_fr m_q I K := by
  rw [e_X12_unmet_139]
  obtain ⟨K, ⟨k1, k2⟩, k3⟩ := z_findS (σ := Ii) (fun k J => c_X12_unmet_139_5 X (d + 37) (nI k) J T) (fun k J => z_r (nI k) J T) (fun J => z_fr m_q I J ∧ J 139 0 = 0) (fun k => decide (R_ans (I 140) n k = 0)) m (by
    intro k J hk ⟨q1, q2⟩
    have eJ := z_q140 q1
    have n4 : J 140 4 = nI m := by rw [eJ]; exact h4
    obtain ⟨L, l1, l2, l3⟩ := l_answers X d J T n k (by rw [eJ]; exact h) (by omega) q2 (by rw [eJ]; exact hq k hk)
    rw [eJ] at l1
    refine ⟨L, ⟨z_fr_t q1 l3, l2⟩, ?_⟩
    rw [e_X12_unmet_139_5]
    by_cases hc : R_ans (I 140) n k = 0 <;> simp (disch := omega) only [e_X12_unmet_139_14, k_X12_unmet_139_14, n4, l1, hc, q_bd_l, z_ltT, z_ltF, z_eqT, z_eqF, z_ltlT, z_ltlF, z_lltT, z_lltF, z_eqlT, z_eqlF, z_in, z_k7, z_cl, z_lneg, z_llT, z_llF, z_s1, z_nI_cl, z_nlt0, z_ne_m1, z_b0, z_b1, z_la, z_al, z_lm, z_ml, z_nm, nI_add, pk_mul, ↓reduceIte, not_true_eq_false, not_false_eq_true, true_or, or_true, false_or, or_false, true_and, and_true, and_false, false_and, Classical.not_not, Nat.add_zero, z_01, z_em, z_bit_p, Nat.not_le, Nat.not_lt, reduceCtorEq, if_true, if_false, decide_true, decide_false, Bool.and_true, Bool.and_false, Bool.true_and, Bool.false_and, Bool.or_true, Bool.or_false, Bool.true_or, Bool.false_or, Bool.false_eq_true, ne_eq, Bool.not_true, Bool.not_false, decide_not]) (q_w I 139 0 0) ⟨z_q0 I 0, z_w_s _ _ _ _⟩
  refine ⟨K, ?_, k2, k1⟩
  refine k3.trans ?_
  have n4 : K 140 4 = nI m := by rw [z_q140 k1]; exact h4
  unfold z_f1
  rw [e_X12_unmet_139_5]
  split <;> simp (disch := omega) only [n4, q_bd_l, z_ltT, z_ltF, z_eqT, z_eqF, z_ltlT, z_ltlF, z_lltT, z_lltF, z_eqlT, z_eqlF, z_in, z_k7, z_cl, z_lneg, z_llT, z_llF, z_s1, z_nI_cl, z_nlt0, z_ne_m1, z_b0, z_b1, z_la, z_al, z_lm, z_ml, z_nm, nI_add, pk_mul, ↓reduceIte, not_true_eq_false, not_false_eq_true, true_or, or_true, false_or, or_false, true_and, and_true, and_false, false_and, Classical.not_not, Nat.add_zero, z_01, z_em, z_bit_p, Nat.not_le, Nat.not_lt, reduceCtorEq, if_true, if_false]
-- need
theorem l_need1 (X : Sx) (d : Nat) (I : Ii) (T : Tt) (n m k w : Nat) (h : R_g n (I 140)) (h4 : I 140 4 = nI m) (hm : m ≤ 10) (hk : k < m) (hw : w ≤ 3) (hq : z_le (I 140 (154 + 3 * k + 1)) 5) : ∃ K, c_X12_need_139 X (d + 38) (nI k) (nI w) I T = z_r (if w = 3 then R_ans (I 140) n k else I 140 (154 + 3 * k + w)) K T ∧ K 139 0 = 0 ∧ z_fr m_q I K := by
  have e : (q_w I 139 0 0) 140 = I 140 := z_w_a _ _ _ _ _ (by decide)
  rw [e_X12_need_139, l_inR1 X _ I T (I 140 4) k m h4 (by omega) hk]
  by_cases h3 : w = 3
  · obtain ⟨L, l1, l2, l3⟩ := l_answers X d (q_w I 139 0 0) T n k (by rw [e]; exact h) (by omega) (z_w_s _ _ _ _) (by rw [e]; exact hq)
    rw [e] at l1
    refine ⟨L, ?_, l2, z_fr_t (z_q0 I 0) l3⟩
    subst h3
    simp (disch := omega) only [e_X12_need_139, e_X12_need_139_10, k_X12_need_139_10, e_X12_need_139_17, k_X12_need_139_17, e_X12_need_139_21, e_X12_need_139_34, k_X12_need_139_34, e_X12_need_139_38, k_X12_need_139_38, l_in1 X _ I T 3 3 (by omega) hw, l1, q_bd_l, z_ltT, z_ltF, z_eqT, z_eqF, z_ltlT, z_ltlF, z_lltT, z_lltF, z_eqlT, z_eqlF, z_in, z_k7, z_cl, z_lneg, z_llT, z_llF, z_s1, z_nI_cl, z_nlt0, z_ne_m1, z_b0, z_b1, z_la, z_al, z_lm, z_ml, z_nm, nI_add, pk_mul, ↓reduceIte, not_true_eq_false, not_false_eq_true, true_or, or_true, false_or, or_false, true_and, and_true, and_false, false_and, Classical.not_not, Nat.add_zero, z_01, z_em, z_bit_p, Nat.not_le, Nat.not_lt, reduceCtorEq, if_true, if_false]
  · refine ⟨q_w I 139 0 0, ?_, z_w_s _ _ _ _, z_q0 I 0⟩
    simp (disch := omega) only [e_X12_need_139, e_X12_need_139_10, k_X12_need_139_10, e_X12_need_139_17, k_X12_need_139_17, e_X12_need_139_21, e_X12_need_139_34, k_X12_need_139_34, e_X12_need_139_38, k_X12_need_139_38, l_in1 X _ I T w 3 (by omega) hw, l_ofNeedn, e, h3, q_bd_l, z_ltT, z_ltF, z_eqT, z_eqF, z_ltlT, z_ltlF, z_lltT, z_lltF, z_eqlT, z_eqlF, z_in, z_k7, z_cl, z_lneg, z_llT, z_llF, z_s1, z_nI_cl, z_nlt0, z_ne_m1, z_b0, z_b1, z_la, z_al, z_lm, z_ml, z_nm, nI_add, pk_mul, ↓reduceIte, not_true_eq_false, not_false_eq_true, true_or, or_true, false_or, or_false, true_and, and_true, and_false, false_and, Classical.not_not, Nat.add_zero, z_01, z_em, z_bit_p, Nat.not_le, Nat.not_lt, reduceCtorEq, if_true, if_false]
theorem l_need0 (X : Sx) (d : Nat) (I : Ii) (T : Tt) (m : Nat) (v u c : Int32) (h4 : I 140 4 = nI m) (hm : m ≤ 10) (hc : c = 1 ∧ z_no v m ∨ c = 2 ∧ (∃ k, k < m ∧ v = nI k) ∧ z_no u 4) : c_X12_need_139 X (d + 38) v u I T = z_r 0 (q_w I 139 0 c) T := by
  rw [e_X12_need_139]
  rcases hc with ⟨rfl, hv⟩ | ⟨rfl, ⟨k, hk, rfl⟩, hu⟩
  · rw [l_inR0 X _ v I T (I 140 4) m h4 (by omega) hv]
    simp (disch := omega) only [e_X12_need_139, e_X12_need_139_10, k_X12_need_139_10, e_X12_need_139_17, k_X12_need_139_17, e_X12_need_139_21, e_X12_need_139_34, k_X12_need_139_34, e_X12_need_139_38, k_X12_need_139_38, q_bd_l, z_ltT, z_ltF, z_eqT, z_eqF, z_ltlT, z_ltlF, z_lltT, z_lltF, z_eqlT, z_eqlF, z_in, z_k7, z_cl, z_lneg, z_llT, z_llF, z_s1, z_nI_cl, z_nlt0, z_ne_m1, z_b0, z_b1, z_la, z_al, z_lm, z_ml, z_nm, nI_add, pk_mul, ↓reduceIte, not_true_eq_false, not_false_eq_true, true_or, or_true, false_or, or_false, true_and, and_true, and_false, false_and, Classical.not_not, Nat.add_zero, z_01, z_em, z_bit_p, Nat.not_le, Nat.not_lt, reduceCtorEq, if_true, if_false]
  · rw [l_inR1 X _ I T (I 140 4) k m h4 (by omega) hk]
    simp (disch := omega) only [e_X12_need_139, e_X12_need_139_10, k_X12_need_139_10, e_X12_need_139_17, k_X12_need_139_17, e_X12_need_139_21, e_X12_need_139_34, k_X12_need_139_34, e_X12_need_139_38, k_X12_need_139_38, l_in0 X _ u I T 3 (by omega) hu, q_bd_l, z_ltT, z_ltF, z_eqT, z_eqF, z_ltlT, z_ltlF, z_lltT, z_lltF, z_eqlT, z_eqlF, z_in, z_k7, z_cl, z_lneg, z_llT, z_llF, z_s1, z_nI_cl, z_nlt0, z_ne_m1, z_b0, z_b1, z_la, z_al, z_lm, z_ml, z_nm, nI_add, pk_mul, ↓reduceIte, not_true_eq_false, not_false_eq_true, true_or, or_true, false_or, or_false, true_and, and_true, and_false, false_and, Classical.not_not, Nat.add_zero, z_01, z_em, z_bit_p, Nat.not_le, Nat.not_lt, reduceCtorEq, if_true, if_false]
-- jar
theorem l_jarC1 (X : Sx) (d : Nat) (I : Ii) (T : Tt) (n j w : Nat) (h : R_g n (I 140)) (hj : j < n) (hw : w ≤ 9) : ∃ K, c_X12_jar_139 X (d + 37) (nI j) (nI w) I T = z_r (if w < 7 then I 140 (12 + 13 * j + w) else if w = 7 then R_cl (I 140) n j else if w = 8 then R_al (I 140) n j else R_pow (I 140) n j) K T ∧ K 139 0 = 0 ∧ z_fr m_q I K := by
  have h10 := h.2.1
  have e : (q_w I 139 0 0) 140 = I 140 := z_w_a _ _ _ _ _ (by decide)
  rw [e_X12_jar_139, l_jar1 X _ I T n j h.1 h10 hj]
  by_cases h7 : w < 7
  · refine ⟨q_w I 139 0 0, ?_, z_w_s _ _ _ _, z_q0 I 0⟩
    simp (disch := omega) only [e_X12_jar_139, e_X12_jar_139_4, k_X12_jar_139_4, e_X12_jar_139_11, k_X12_jar_139_11, e_X12_jar_139_15, e_X12_jar_139_28, k_X12_jar_139_28, e_X12_jar_139_35, k_X12_jar_139_35, e_X12_jar_139_42, k_X12_jar_139_42, e_X12_jar_139_46, k_X12_jar_139_46, l_in1 X _ I T w 9 (by omega) hw, l_ofn, e, h7, q_bd_l, z_ltT, z_ltF, z_eqT, z_eqF, z_ltlT, z_ltlF, z_lltT, z_lltF, z_eqlT, z_eqlF, z_in, z_k7, z_cl, z_lneg, z_llT, z_llF, z_s1, z_nI_cl, z_nlt0, z_ne_m1, z_b0, z_b1, z_la, z_al, z_lm, z_ml, z_nm, nI_add, pk_mul, ↓reduceIte, not_true_eq_false, not_false_eq_true, true_or, or_true, false_or, or_false, true_and, and_true, and_false, false_and, Classical.not_not, Nat.add_zero, z_01, z_em, z_bit_p, Nat.not_le, Nat.not_lt, reduceCtorEq, if_true, if_false]
  · by_cases e7 : w = 7
    · obtain ⟨L, l1, l2⟩ := l_clashes X d (q_w I 139 0 0) T n j hj (by rw [e]; exact h)
      rw [e] at l1
      refine ⟨L, ?_, (l2 139 0 rfl).trans (z_w_s _ _ _ _), z_fr_t (z_q0 I 0) (z_fr_q l2)⟩
      subst e7
      simp (disch := omega) only [e_X12_jar_139, e_X12_jar_139_4, k_X12_jar_139_4, e_X12_jar_139_11, k_X12_jar_139_11, e_X12_jar_139_15, e_X12_jar_139_28, k_X12_jar_139_28, e_X12_jar_139_35, k_X12_jar_139_35, e_X12_jar_139_42, k_X12_jar_139_42, e_X12_jar_139_46, k_X12_jar_139_46, l_in1 X _ I T 7 9 (by omega) hw, l1, q_bd_l, z_ltT, z_ltF, z_eqT, z_eqF, z_ltlT, z_ltlF, z_lltT, z_lltF, z_eqlT, z_eqlF, z_in, z_k7, z_cl, z_lneg, z_llT, z_llF, z_s1, z_nI_cl, z_nlt0, z_ne_m1, z_b0, z_b1, z_la, z_al, z_lm, z_ml, z_nm, nI_add, pk_mul, ↓reduceIte, not_true_eq_false, not_false_eq_true, true_or, or_true, false_or, or_false, true_and, and_true, and_false, false_and, Classical.not_not, Nat.add_zero, z_01, z_em, z_bit_p, Nat.not_le, Nat.not_lt, reduceCtorEq, if_true, if_false]
      rfl
    · by_cases e8 : w = 8
      · obtain ⟨L, l1, l2⟩ := l_alike X d (q_w I 139 0 0) T n j hj (by rw [e]; exact h)
        rw [e] at l1
        refine ⟨L, ?_, (l2 139 0 rfl).trans (z_w_s _ _ _ _), z_fr_t (z_q0 I 0) (z_fr_q l2)⟩
        subst e8
        simp (disch := omega) only [e_X12_jar_139, e_X12_jar_139_4, k_X12_jar_139_4, e_X12_jar_139_11, k_X12_jar_139_11, e_X12_jar_139_15, e_X12_jar_139_28, k_X12_jar_139_28, e_X12_jar_139_35, k_X12_jar_139_35, e_X12_jar_139_42, k_X12_jar_139_42, e_X12_jar_139_46, k_X12_jar_139_46, l_in1 X _ I T 8 9 (by omega) hw, l1, q_bd_l, z_ltT, z_ltF, z_eqT, z_eqF, z_ltlT, z_ltlF, z_lltT, z_lltF, z_eqlT, z_eqlF, z_in, z_k7, z_cl, z_lneg, z_llT, z_llF, z_s1, z_nI_cl, z_nlt0, z_ne_m1, z_b0, z_b1, z_la, z_al, z_lm, z_ml, z_nm, nI_add, pk_mul, ↓reduceIte, not_true_eq_false, not_false_eq_true, true_or, or_true, false_or, or_false, true_and, and_true, and_false, false_and, Classical.not_not, Nat.add_zero, z_01, z_em, z_bit_p, Nat.not_le, Nat.not_lt, reduceCtorEq, if_true, if_false]
        rfl
      · have l1 := l_power X (d + 32) (q_w I 139 0 0) T n j (by rw [e]; exact h.1) h10
        rw [e] at l1
        refine ⟨q_w I 139 0 0, ?_, z_w_s _ _ _ _, z_q0 I 0⟩
        simp (disch := omega) only [e_X12_jar_139, e_X12_jar_139_4, k_X12_jar_139_4, e_X12_jar_139_11, k_X12_jar_139_11, e_X12_jar_139_15, e_X12_jar_139_28, k_X12_jar_139_28, e_X12_jar_139_35, k_X12_jar_139_35, e_X12_jar_139_42, k_X12_jar_139_42, e_X12_jar_139_46, k_X12_jar_139_46, l_in1 X _ I T w 9 (by omega) hw, l1, h7, e7, e8, q_bd_l, z_ltT, z_ltF, z_eqT, z_eqF, z_ltlT, z_ltlF, z_lltT, z_lltF, z_eqlT, z_eqlF, z_in, z_k7, z_cl, z_lneg, z_llT, z_llF, z_s1, z_nI_cl, z_nlt0, z_ne_m1, z_b0, z_b1, z_la, z_al, z_lm, z_ml, z_nm, nI_add, pk_mul, ↓reduceIte, not_true_eq_false, not_false_eq_true, true_or, or_true, false_or, or_false, true_and, and_true, and_false, false_and, Classical.not_not, Nat.add_zero, z_01, z_em, z_bit_p, Nat.not_le, Nat.not_lt, reduceCtorEq, if_true, if_false]
theorem l_jarC0 (X : Sx) (d : Nat) (I : Ii) (T : Tt) (n : Nat) (v u c : Int32) (h3 : I 140 3 = nI n) (hn : n ≤ 10) (hc : c = 1 ∧ z_no v n ∨ c = 2 ∧ (∃ k, k < n ∧ v = nI k) ∧ z_no u 10) : c_X12_jar_139 X (d + 37) v u I T = z_r 0 (q_w I 139 0 c) T := by
  rw [e_X12_jar_139]
  rcases hc with ⟨rfl, hv⟩ | ⟨rfl, ⟨k, hk, rfl⟩, hu⟩
  · rw [l_jar0 X _ v I T n h3 hn hv]
    simp (disch := omega) only [e_X12_jar_139, e_X12_jar_139_4, k_X12_jar_139_4, e_X12_jar_139_11, k_X12_jar_139_11, e_X12_jar_139_15, e_X12_jar_139_28, k_X12_jar_139_28, e_X12_jar_139_35, k_X12_jar_139_35, e_X12_jar_139_42, k_X12_jar_139_42, e_X12_jar_139_46, k_X12_jar_139_46, q_bd_l, z_ltT, z_ltF, z_eqT, z_eqF, z_ltlT, z_ltlF, z_lltT, z_lltF, z_eqlT, z_eqlF, z_in, z_k7, z_cl, z_lneg, z_llT, z_llF, z_s1, z_nI_cl, z_nlt0, z_ne_m1, z_b0, z_b1, z_la, z_al, z_lm, z_ml, z_nm, nI_add, pk_mul, ↓reduceIte, not_true_eq_false, not_false_eq_true, true_or, or_true, false_or, or_false, true_and, and_true, and_false, false_and, Classical.not_not, Nat.add_zero, z_01, z_em, z_bit_p, Nat.not_le, Nat.not_lt, reduceCtorEq, if_true, if_false]
  · rw [l_jar1 X _ I T n k h3 hn hk]
    simp (disch := omega) only [e_X12_jar_139, e_X12_jar_139_4, k_X12_jar_139_4, e_X12_jar_139_11, k_X12_jar_139_11, e_X12_jar_139_15, e_X12_jar_139_28, k_X12_jar_139_28, e_X12_jar_139_35, k_X12_jar_139_35, e_X12_jar_139_42, k_X12_jar_139_42, e_X12_jar_139_46, k_X12_jar_139_46, l_in0 X _ u I T 9 (by omega) hu, q_bd_l, z_ltT, z_ltF, z_eqT, z_eqF, z_ltlT, z_ltlF, z_lltT, z_lltF, z_eqlT, z_eqlF, z_in, z_k7, z_cl, z_lneg, z_llT, z_llF, z_s1, z_nI_cl, z_nlt0, z_ne_m1, z_b0, z_b1, z_la, z_al, z_lm, z_ml, z_nm, nI_add, pk_mul, ↓reduceIte, not_true_eq_false, not_false_eq_true, true_or, or_true, false_or, or_false, true_and, and_true, and_false, false_and, Classical.not_not, Nat.add_zero, z_01, z_em, z_bit_p, Nat.not_le, Nat.not_lt, reduceCtorEq, if_true, if_false]
-- war
def R_wo (op ot its : Int32) : Int32 := if op = 0 then (if ot = 0 then 0 else -3) else (if ot = 0 then its else its - 5)
theorem l_worth (X : Sx) (d : Nat) (a b c : Int32) (I : Ii) (T : Tt) : c_X12_worth X (d + 1) a b c I T = z_r (R_wo a b c) I T := by
  rw [e_X12_worth]
  unfold R_wo
  by_cases h1 : a = 0 <;> by_cases h2 : b = 0 <;> simp (disch := omega) only [h1, h2, q_bd_l, z_ltT, z_ltF, z_eqT, z_eqF, z_ltlT, z_ltlF, z_lltT, z_lltF, z_eqlT, z_eqlF, z_in, z_k7, z_cl, z_lneg, z_llT, z_llF, z_s1, z_nI_cl, z_nlt0, z_ne_m1, z_b0, z_b1, z_la, z_al, z_lm, z_ml, z_nm, nI_add, pk_mul, ↓reduceIte, not_true_eq_false, not_false_eq_true, true_or, or_true, false_or, or_false, true_and, and_true, and_false, false_and, Classical.not_not, Nat.add_zero, z_01, z_em, z_bit_p, Nat.not_le, Nat.not_lt, reduceCtorEq, if_true, if_false]
def R_w1 (a b : Int32) (k : Nat) (s : Int32) : Int32 := if R_wo (z_i (decide (k % 2 = 1))) (z_i (decide (1 < k))) a < R_wo (z_i (!decide (k % 2 = 1))) (z_i (decide (1 < k))) a then s else if R_wo (z_i (decide (1 < k))) (z_i (decide (k % 2 = 1))) b < R_wo (z_i (!decide (1 < k))) (z_i (decide (k % 2 = 1))) b then s else s ||| (1 : Int32) <<< (nI k &&& 31)
def R_war (a b : Int32) : Int32 := z_it (R_w1 a b) 4 0
theorem l_war26 (X : Sx) (d : Nat) (I : Ii) (T : Tt) (v1 v2 v3 a b : Int32) : c_X12_war_139_26 X (d + 1) v1 v2 v3 a b 0 0 none none I T = z_r (R_war a b) I T := by
  obtain ⟨⟨o8, o9⟩, -, p4⟩ := z_foldP (β := Int32) (σ := Option Value × Option Value) (fun k s o => c_X12_war_139_26 X (d + 1) v1 v2 v3 a b s (nI k) o.1 o.2 I T) (R_w1 a b) (fun _ _ _ => True) 4 (by
    intro k s o hk _
    refine ⟨(some (.int (z_i (decide (k % 2 = 1)))), some (.int (z_i (decide (1 < k))))), trivial, ?_⟩
    dsimp only
    have m2 := z_m2 k (by omega)
    rw [e_X12_war_139_26]
    unfold R_w1
    by_cases h1 : k % 2 = 1
    · by_cases h2 : 1 < k
      · by_cases h3 : R_wo 1 1 a < R_wo 0 1 a
        · simp (disch := omega) only [e_X12_war_139_6, k_X12_war_139_6, e_X12_war_139_16, k_X12_war_139_16, e_X12_war_139_21, k_X12_war_139_21, e_X12_war_139_37, e_X12_war_139_44, e_X12_war_139_50, e_X12_war_139_53, k_X12_war_139_53, e_X12_war_139_57, k_X12_war_139_57, e_X12_war_139_63, e_X12_war_139_66, k_X12_war_139_66, e_X12_war_139_70, k_X12_war_139_70, e_X12_war_139_77, m2, h1, h2, z_i, l_worth, h3, q_bd_l, z_ltT, z_ltF, z_eqT, z_eqF, z_ltlT, z_ltlF, z_lltT, z_lltF, z_eqlT, z_eqlF, z_in, z_k7, z_cl, z_lneg, z_llT, z_llF, z_s1, z_nI_cl, z_nlt0, z_ne_m1, z_b0, z_b1, z_la, z_al, z_lm, z_ml, z_nm, nI_add, pk_mul, ↓reduceIte, not_true_eq_false, not_false_eq_true, true_or, or_true, false_or, or_false, true_and, and_true, and_false, false_and, Classical.not_not, Nat.add_zero, z_01, z_em, z_bit_p, Nat.not_le, Nat.not_lt, reduceCtorEq, if_true, if_false, decide_true, decide_false, Bool.and_true, Bool.and_false, Bool.true_and, Bool.false_and, Bool.or_true, Bool.or_false, Bool.true_or, Bool.false_or, Bool.false_eq_true, ne_eq, Bool.not_true, Bool.not_false, decide_not]
        · by_cases h4 : R_wo 1 1 b < R_wo 0 1 b <;> simp (disch := omega) only [e_X12_war_139_6, k_X12_war_139_6, e_X12_war_139_16, k_X12_war_139_16, e_X12_war_139_21, k_X12_war_139_21, e_X12_war_139_37, e_X12_war_139_44, e_X12_war_139_50, e_X12_war_139_53, k_X12_war_139_53, e_X12_war_139_57, k_X12_war_139_57, e_X12_war_139_63, e_X12_war_139_66, k_X12_war_139_66, e_X12_war_139_70, k_X12_war_139_70, e_X12_war_139_77, m2, h1, h2, z_i, l_worth, h3, h4, q_bd_l, z_ltT, z_ltF, z_eqT, z_eqF, z_ltlT, z_ltlF, z_lltT, z_lltF, z_eqlT, z_eqlF, z_in, z_k7, z_cl, z_lneg, z_llT, z_llF, z_s1, z_nI_cl, z_nlt0, z_ne_m1, z_b0, z_b1, z_la, z_al, z_lm, z_ml, z_nm, nI_add, pk_mul, ↓reduceIte, not_true_eq_false, not_false_eq_true, true_or, or_true, false_or, or_false, true_and, and_true, and_false, false_and, Classical.not_not, Nat.add_zero, z_01, z_em, z_bit_p, Nat.not_le, Nat.not_lt, reduceCtorEq, if_true, if_false, decide_true, decide_false, Bool.and_true, Bool.and_false, Bool.true_and, Bool.false_and, Bool.or_true, Bool.or_false, Bool.true_or, Bool.false_or, Bool.false_eq_true, ne_eq, Bool.not_true, Bool.not_false, decide_not]
      · by_cases h3 : R_wo 1 0 a < R_wo 0 0 a
        · simp (disch := omega) only [e_X12_war_139_6, k_X12_war_139_6, e_X12_war_139_16, k_X12_war_139_16, e_X12_war_139_21, k_X12_war_139_21, e_X12_war_139_37, e_X12_war_139_44, e_X12_war_139_50, e_X12_war_139_53, k_X12_war_139_53, e_X12_war_139_57, k_X12_war_139_57, e_X12_war_139_63, e_X12_war_139_66, k_X12_war_139_66, e_X12_war_139_70, k_X12_war_139_70, e_X12_war_139_77, m2, h1, h2, z_i, l_worth, h3, q_bd_l, z_ltT, z_ltF, z_eqT, z_eqF, z_ltlT, z_ltlF, z_lltT, z_lltF, z_eqlT, z_eqlF, z_in, z_k7, z_cl, z_lneg, z_llT, z_llF, z_s1, z_nI_cl, z_nlt0, z_ne_m1, z_b0, z_b1, z_la, z_al, z_lm, z_ml, z_nm, nI_add, pk_mul, ↓reduceIte, not_true_eq_false, not_false_eq_true, true_or, or_true, false_or, or_false, true_and, and_true, and_false, false_and, Classical.not_not, Nat.add_zero, z_01, z_em, z_bit_p, Nat.not_le, Nat.not_lt, reduceCtorEq, if_true, if_false, decide_true, decide_false, Bool.and_true, Bool.and_false, Bool.true_and, Bool.false_and, Bool.or_true, Bool.or_false, Bool.true_or, Bool.false_or, Bool.false_eq_true, ne_eq, Bool.not_true, Bool.not_false, decide_not]
        · by_cases h4 : R_wo 0 1 b < R_wo 1 1 b <;> simp (disch := omega) only [e_X12_war_139_6, k_X12_war_139_6, e_X12_war_139_16, k_X12_war_139_16, e_X12_war_139_21, k_X12_war_139_21, e_X12_war_139_37, e_X12_war_139_44, e_X12_war_139_50, e_X12_war_139_53, k_X12_war_139_53, e_X12_war_139_57, k_X12_war_139_57, e_X12_war_139_63, e_X12_war_139_66, k_X12_war_139_66, e_X12_war_139_70, k_X12_war_139_70, e_X12_war_139_77, m2, h1, h2, z_i, l_worth, h3, h4, q_bd_l, z_ltT, z_ltF, z_eqT, z_eqF, z_ltlT, z_ltlF, z_lltT, z_lltF, z_eqlT, z_eqlF, z_in, z_k7, z_cl, z_lneg, z_llT, z_llF, z_s1, z_nI_cl, z_nlt0, z_ne_m1, z_b0, z_b1, z_la, z_al, z_lm, z_ml, z_nm, nI_add, pk_mul, ↓reduceIte, not_true_eq_false, not_false_eq_true, true_or, or_true, false_or, or_false, true_and, and_true, and_false, false_and, Classical.not_not, Nat.add_zero, z_01, z_em, z_bit_p, Nat.not_le, Nat.not_lt, reduceCtorEq, if_true, if_false, decide_true, decide_false, Bool.and_true, Bool.and_false, Bool.true_and, Bool.false_and, Bool.or_true, Bool.or_false, Bool.true_or, Bool.false_or, Bool.false_eq_true, ne_eq, Bool.not_true, Bool.not_false, decide_not]
    · by_cases h2 : 1 < k
      · by_cases h3 : R_wo 0 1 a < R_wo 1 1 a
        · simp (disch := omega) only [e_X12_war_139_6, k_X12_war_139_6, e_X12_war_139_16, k_X12_war_139_16, e_X12_war_139_21, k_X12_war_139_21, e_X12_war_139_37, e_X12_war_139_44, e_X12_war_139_50, e_X12_war_139_53, k_X12_war_139_53, e_X12_war_139_57, k_X12_war_139_57, e_X12_war_139_63, e_X12_war_139_66, k_X12_war_139_66, e_X12_war_139_70, k_X12_war_139_70, e_X12_war_139_77, m2, h1, h2, z_i, l_worth, h3, q_bd_l, z_ltT, z_ltF, z_eqT, z_eqF, z_ltlT, z_ltlF, z_lltT, z_lltF, z_eqlT, z_eqlF, z_in, z_k7, z_cl, z_lneg, z_llT, z_llF, z_s1, z_nI_cl, z_nlt0, z_ne_m1, z_b0, z_b1, z_la, z_al, z_lm, z_ml, z_nm, nI_add, pk_mul, ↓reduceIte, not_true_eq_false, not_false_eq_true, true_or, or_true, false_or, or_false, true_and, and_true, and_false, false_and, Classical.not_not, Nat.add_zero, z_01, z_em, z_bit_p, Nat.not_le, Nat.not_lt, reduceCtorEq, if_true, if_false, decide_true, decide_false, Bool.and_true, Bool.and_false, Bool.true_and, Bool.false_and, Bool.or_true, Bool.or_false, Bool.true_or, Bool.false_or, Bool.false_eq_true, ne_eq, Bool.not_true, Bool.not_false, decide_not]
        · by_cases h4 : R_wo 1 0 b < R_wo 0 0 b <;> simp (disch := omega) only [e_X12_war_139_6, k_X12_war_139_6, e_X12_war_139_16, k_X12_war_139_16, e_X12_war_139_21, k_X12_war_139_21, e_X12_war_139_37, e_X12_war_139_44, e_X12_war_139_50, e_X12_war_139_53, k_X12_war_139_53, e_X12_war_139_57, k_X12_war_139_57, e_X12_war_139_63, e_X12_war_139_66, k_X12_war_139_66, e_X12_war_139_70, k_X12_war_139_70, e_X12_war_139_77, m2, h1, h2, z_i, l_worth, h3, h4, q_bd_l, z_ltT, z_ltF, z_eqT, z_eqF, z_ltlT, z_ltlF, z_lltT, z_lltF, z_eqlT, z_eqlF, z_in, z_k7, z_cl, z_lneg, z_llT, z_llF, z_s1, z_nI_cl, z_nlt0, z_ne_m1, z_b0, z_b1, z_la, z_al, z_lm, z_ml, z_nm, nI_add, pk_mul, ↓reduceIte, not_true_eq_false, not_false_eq_true, true_or, or_true, false_or, or_false, true_and, and_true, and_false, false_and, Classical.not_not, Nat.add_zero, z_01, z_em, z_bit_p, Nat.not_le, Nat.not_lt, reduceCtorEq, if_true, if_false, decide_true, decide_false, Bool.and_true, Bool.and_false, Bool.true_and, Bool.false_and, Bool.or_true, Bool.or_false, Bool.true_or, Bool.false_or, Bool.false_eq_true, ne_eq, Bool.not_true, Bool.not_false, decide_not]
      · by_cases h3 : R_wo 0 0 a < R_wo 1 0 a
        · simp (disch := omega) only [e_X12_war_139_6, k_X12_war_139_6, e_X12_war_139_16, k_X12_war_139_16, e_X12_war_139_21, k_X12_war_139_21, e_X12_war_139_37, e_X12_war_139_44, e_X12_war_139_50, e_X12_war_139_53, k_X12_war_139_53, e_X12_war_139_57, k_X12_war_139_57, e_X12_war_139_63, e_X12_war_139_66, k_X12_war_139_66, e_X12_war_139_70, k_X12_war_139_70, e_X12_war_139_77, m2, h1, h2, z_i, l_worth, h3, q_bd_l, z_ltT, z_ltF, z_eqT, z_eqF, z_ltlT, z_ltlF, z_lltT, z_lltF, z_eqlT, z_eqlF, z_in, z_k7, z_cl, z_lneg, z_llT, z_llF, z_s1, z_nI_cl, z_nlt0, z_ne_m1, z_b0, z_b1, z_la, z_al, z_lm, z_ml, z_nm, nI_add, pk_mul, ↓reduceIte, not_true_eq_false, not_false_eq_true, true_or, or_true, false_or, or_false, true_and, and_true, and_false, false_and, Classical.not_not, Nat.add_zero, z_01, z_em, z_bit_p, Nat.not_le, Nat.not_lt, reduceCtorEq, if_true, if_false, decide_true, decide_false, Bool.and_true, Bool.and_false, Bool.true_and, Bool.false_and, Bool.or_true, Bool.or_false, Bool.true_or, Bool.false_or, Bool.false_eq_true, ne_eq, Bool.not_true, Bool.not_false, decide_not]
        · by_cases h4 : R_wo 0 0 b < R_wo 1 0 b <;> simp (disch := omega) only [e_X12_war_139_6, k_X12_war_139_6, e_X12_war_139_16, k_X12_war_139_16, e_X12_war_139_21, k_X12_war_139_21, e_X12_war_139_37, e_X12_war_139_44, e_X12_war_139_50, e_X12_war_139_53, k_X12_war_139_53, e_X12_war_139_57, k_X12_war_139_57, e_X12_war_139_63, e_X12_war_139_66, k_X12_war_139_66, e_X12_war_139_70, k_X12_war_139_70, e_X12_war_139_77, m2, h1, h2, z_i, l_worth, h3, h4, q_bd_l, z_ltT, z_ltF, z_eqT, z_eqF, z_ltlT, z_ltlF, z_lltT, z_lltF, z_eqlT, z_eqlF, z_in, z_k7, z_cl, z_lneg, z_llT, z_llF, z_s1, z_nI_cl, z_nlt0, z_ne_m1, z_b0, z_b1, z_la, z_al, z_lm, z_ml, z_nm, nI_add, pk_mul, ↓reduceIte, not_true_eq_false, not_false_eq_true, true_or, or_true, false_or, or_false, true_and, and_true, and_false, false_and, Classical.not_not, Nat.add_zero, z_01, z_em, z_bit_p, Nat.not_le, Nat.not_lt, reduceCtorEq, if_true, if_false, decide_true, decide_false, Bool.and_true, Bool.and_false, Bool.true_and, Bool.false_and, Bool.or_true, Bool.or_false, Bool.true_or, Bool.false_or, Bool.false_eq_true, ne_eq, Bool.not_true, Bool.not_false, decide_not]) 0 (none, none) trivial
  refine p4.trans ?_
  dsimp only
  rw [e_X12_war_139_26]
  simp (disch := omega) only [q_bd_l, z_ltT, z_ltF, z_eqT, z_eqF, z_ltlT, z_ltlF, z_lltT, z_lltF, z_eqlT, z_eqlF, z_in, z_k7, z_cl, z_lneg, z_llT, z_llF, z_s1, z_nI_cl, z_nlt0, z_ne_m1, z_b0, z_b1, z_la, z_al, z_lm, z_ml, z_nm, nI_add, pk_mul, ↓reduceIte, not_true_eq_false, not_false_eq_true, true_or, or_true, false_or, or_false, true_and, and_true, and_false, false_and, Classical.not_not, Nat.add_zero, z_01, z_em, z_bit_p, Nat.not_le, Nat.not_lt, reduceCtorEq, if_true, if_false]
  rfl
theorem l_war1 (X : Sx) (d : Nat) (I : Ii) (T : Tt) (n j o t : Nat) (h : R_g n (I 140)) (hj : j < n) (ho : o < n) (hne : j ≠ o) (ht : t < 6) : ∃ K, c_X12_war_139 X (d + 37) (nI j) (nI o) (nI t) I T = z_r (R_war (R_adv (I 140) j t) (R_adv (I 140) o t)) K T ∧ K 139 0 = 0 ∧ z_fr m_q I K := by
  have h10 := h.2.1
  have e : (q_w I 139 0 0) 140 = I 140 := z_w_a _ _ _ _ _ (by decide)
  obtain ⟨J, h1, h2⟩ := l_adv X (d + 2) (q_w I 139 0 0) T j t (by omega) ht (by rw [e]; exact h.2.2)
  have eJ := z_r140 h2
  obtain ⟨K, k1, k2⟩ := l_adv X (d + 2) J T o t (by omega) ht (by rw [eJ, e]; exact h.2.2)
  rw [e] at h1
  rw [eJ, e] at k1
  refine ⟨K, ?_, ((k2 139 0 rfl).trans (h2 139 0 rfl)).trans (z_w_s _ _ _ _), z_fr_t (z_q0 I 0) (z_fr_q (z_fr_t h2 k2))⟩
  rw [e_X12_war_139, l_two X _ I T n h.1 h10 _ _ _ 0 (.inr (.inr ⟨rfl, j, o, t, hj, ho, hne, ht, rfl, rfl, rfl⟩))]
  simp (disch := omega) only [e_X12_war_139_6, k_X12_war_139_6, e_X12_war_139_16, k_X12_war_139_16, e_X12_war_139_21, k_X12_war_139_21, e_X12_war_139_37, e_X12_war_139_44, e_X12_war_139_50, e_X12_war_139_53, k_X12_war_139_53, e_X12_war_139_57, k_X12_war_139_57, e_X12_war_139_63, e_X12_war_139_66, k_X12_war_139_66, e_X12_war_139_70, k_X12_war_139_70, e_X12_war_139_77, h1, k1, l_war26, q_bd_l, z_ltT, z_ltF, z_eqT, z_eqF, z_ltlT, z_ltlF, z_lltT, z_lltF, z_eqlT, z_eqlF, z_in, z_k7, z_cl, z_lneg, z_llT, z_llF, z_s1, z_nI_cl, z_nlt0, z_ne_m1, z_b0, z_b1, z_la, z_al, z_lm, z_ml, z_nm, nI_add, pk_mul, ↓reduceIte, not_true_eq_false, not_false_eq_true, true_or, or_true, false_or, or_false, true_and, and_true, and_false, false_and, Classical.not_not, Nat.add_zero, z_01, z_em, z_bit_p, Nat.not_le, Nat.not_lt, reduceCtorEq, if_true, if_false]
theorem l_war0 (X : Sx) (d : Nat) (I : Ii) (T : Tt) (n : Nat) (v u w c : Int32) (h : R_g n (I 140)) (hc : z_two n v u w c) (h0 : c = 1 ∨ c = 2) : c_X12_war_139 X (d + 37) v u w I T = z_r 0 (q_w I 139 0 c) T := by
  rw [e_X12_war_139, l_two X _ I T n h.1 h.2.1 _ _ _ c hc]
  rcases h0 with rfl | rfl <;> simp (disch := omega) only [e_X12_war_139, e_X12_war_139_6, k_X12_war_139_6, e_X12_war_139_16, k_X12_war_139_16, e_X12_war_139_21, k_X12_war_139_21, e_X12_war_139_37, e_X12_war_139_44, e_X12_war_139_50, e_X12_war_139_53, k_X12_war_139_53, e_X12_war_139_57, k_X12_war_139_57, e_X12_war_139_63, e_X12_war_139_66, k_X12_war_139_66, e_X12_war_139_70, k_X12_war_139_70, e_X12_war_139_77, q_bd_l, z_ltT, z_ltF, z_eqT, z_eqF, z_ltlT, z_ltlF, z_lltT, z_lltF, z_eqlT, z_eqlF, z_in, z_k7, z_cl, z_lneg, z_llT, z_llF, z_s1, z_nI_cl, z_nlt0, z_ne_m1, z_b0, z_b1, z_la, z_al, z_lm, z_ml, z_nm, nI_add, pk_mul, ↓reduceIte, not_true_eq_false, not_false_eq_true, true_or, or_true, false_or, or_false, true_and, and_true, and_false, false_and, Classical.not_not, Nat.add_zero, z_01, z_em, z_bit_p, Nat.not_le, Nat.not_lt, reduceCtorEq, if_true, if_false]
