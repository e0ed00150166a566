/-! ===== THE REFERENCE: acts ===== -/
def m_act (a k : Nat) : Bool := m_q a k || a == 140 || a == 143 || (a == 139 && k == 6)
/-- all is remembered: 'a' acts were -/
def z_rem (I J : Ii) (a : Nat) : Prop := J 139 6 = nI (min a 11 + 1) ∧ (∀ i k, i < min a 11 → k < 484 → J 143 (484 * i + k) = I 143 (484 * (i + (a - min a 11)) + k)) ∧ ∀ k, k < 484 → J 143 (484 * min a 11 + k) = I 140 k
theorem l_rem29 (X : Sx) (d : Nat) (J : Ii) (T : Tt) (a : Nat) (ha : a ≤ 11) (h6 : J 139 6 = nI a) : ∃ K, c_X12_remembers_139_29 X d 0 J T = z_v K T ∧ K 139 6 = nI (a + 1) ∧ z_fr (fun b k => b == 143 || (b == 139 && k == 6)) J K ∧ (∀ i, i < 484 * a → K 143 i = J 143 i) ∧ ∀ k, k < 484 → K 143 (484 * a + k) = J 140 k := by
  obtain ⟨K, ⟨p1, p2, p3⟩, p4⟩ := z_foldP (β := Unit) (σ := Ii) (fun k _ K => c_X12_remembers_139_29 X d (nI k) K T) (fun _ u => u) (fun k _ K => z_fr (fun b _ => b == 143) J K ∧ (∀ i, i < 484 * a → K 143 i = J 143 i) ∧ ∀ i, i < k → K 143 (484 * a + i) = J 140 i) 484 (by
    intro k _ K hk ⟨q1, q2, q3⟩
    have e6 : K 139 6 = nI a := (q1 139 6 rfl).trans h6
    refine ⟨q_w K 143 (484 * a + k) (K 140 k), ⟨z_fr_w q1 143 _ _ rfl, fun i hi => ?_, fun i hi => ?_⟩, ?_⟩
    · rw [z_w_k _ _ _ _ _ (by omega)]; exact q2 i hi
    · by_cases e : i = k
      · subst e; rw [z_w_s, q1 140 i rfl]
      · rw [z_w_k _ _ _ _ _ (by omega)]; exact q3 i (by omega)
    · rw [e_X12_remembers_139_29]
      simp (disch := omega) only [e6, q_bd_l, z_ltT, z_ltF, z_eqT, z_eqF, z_ltlT, z_ltlF, z_lltT, z_lltF, z_eqlT, z_eqlF, z_in, z_k7, z_cl, z_lneg, z_llT, z_llF, z_s1, z_nI_cl, z_nlt0, z_ne_m1, z_b0, z_b1, z_la, z_al, z_lm, z_ml, z_nm, nI_add, pk_mul, ↓reduceIte, not_true_eq_false, not_false_eq_true, true_or, or_true, false_or, or_false, true_and, and_true, and_false, false_and, Classical.not_not, Nat.add_zero, z_01, z_em, z_bit_p, Nat.not_le, Nat.not_lt, reduceCtorEq, if_true, if_false]) () J ⟨z_fr_r _ _, fun _ _ => rfl, fun i hi => by omega⟩
  have e6 : K 139 6 = nI a := (p1 139 6 rfl).trans h6
  refine ⟨q_w K 139 6 (nI (a + 1)), ?_, z_w_s _ _ _ _, z_fr_w (z_fr_m p1 (fun b k h => by simp at h; simp [h])) 139 6 _ rfl, fun i hi => by rw [z_w_a _ _ _ _ _ (by decide)]; exact p2 i hi, fun k hk => by rw [z_w_a _ _ _ _ _ (by decide)]; exact p3 k hk⟩
  refine p4.trans ?_
  rw [e_X12_remembers_139_29]
  simp (disch := omega) only [e6, q_bd_l, z_ltT, z_ltF, z_eqT, z_eqF, z_ltlT, z_ltlF, z_lltT, z_lltF, z_eqlT, z_eqlF, z_in, z_k7, z_cl, z_lneg, z_llT, z_llF, z_s1, z_nI_cl, z_nlt0, z_ne_m1, z_b0, z_b1, z_la, z_al, z_lm, z_ml, z_nm, nI_add, pk_mul, ↓reduceIte, not_true_eq_false, not_false_eq_true, true_or, or_true, false_or, or_false, true_and, and_true, and_false, false_and, Classical.not_not, Nat.add_zero, z_01, z_em, z_bit_p, Nat.not_le, Nat.not_lt, reduceCtorEq, if_true, if_false]
theorem l_remembers (X : Sx) (d : Nat) (I : Ii) (T : Tt) (a : Nat) (ha : a ≤ 12) (h6 : I 139 6 = nI a) : ∃ K, c_X12_remembers_139 X (d + 1) I T = z_v K T ∧ z_rem I K a ∧ z_fr (fun b k => b == 143 || (b == 139 && k == 6)) I K := by
  rw [e_X12_remembers_139]
  rcases Nat.lt_or_ge a 12 with h | h
  · obtain ⟨K, k1, k2, k3, k4, k5⟩ := l_rem29 X d I T a (by omega) h6
    have em : min a 11 = a := by omega
    refine ⟨K, ?_, ⟨by rw [em]; exact k2, fun i k hi hk => ?_, fun k hk => by rw [em]; exact k5 k hk⟩, k3⟩
    · rw [← k1]
      simp (disch := omega) only [e_X12_remembers_139_27, h6, q_bd_l, z_ltT, z_ltF, z_eqT, z_eqF, z_ltlT, z_ltlF, z_lltT, z_lltF, z_eqlT, z_eqlF, z_in, z_k7, z_cl, z_lneg, z_llT, z_llF, z_s1, z_nI_cl, z_nlt0, z_ne_m1, z_b0, z_b1, z_la, z_al, z_lm, z_ml, z_nm, nI_add, pk_mul, ↓reduceIte, not_true_eq_false, not_false_eq_true, true_or, or_true, false_or, or_false, true_and, and_true, and_false, false_and, Classical.not_not, Nat.add_zero, z_01, z_em, z_bit_p, Nat.not_le, Nat.not_lt, reduceCtorEq, if_true, if_false]
    · rw [em] at hi ⊢
      rw [k4 _ (by omega)]
      congr 1
      omega
  · have ha : a = 12 := by omega
    subst ha
    obtain ⟨J, ⟨p1, p2⟩, p4⟩ := z_foldP (β := Unit) (σ := Ii) (fun k _ K => c_X12_remembers_139_6 X d (nI k) K T) (fun _ u => u) (fun k _ K => z_fr (fun b _ => b == 143) I K ∧ ∀ i, K 143 i = if i < k then I 143 (i + 484) else I 143 i) 5324 (by
      intro k _ K hk ⟨q1, q2⟩
      refine ⟨q_w K 143 k (K 143 (k + 484)), ⟨z_fr_w q1 143 _ _ rfl, fun i => ?_⟩, ?_⟩
      · by_cases e : i = k
        · subst e
          rw [z_w_s, q2, if_neg (by omega), if_pos (by omega)]
        · rw [z_w_k _ _ _ _ _ e, q2]
          by_cases h1 : i < k
          · rw [if_pos h1, if_pos (by omega)]
          · rw [if_neg h1, if_neg (by omega)]
      · rw [e_X12_remembers_139_6]
        simp (disch := omega) only [q_bd_l, z_ltT, z_ltF, z_eqT, z_eqF, z_ltlT, z_ltlF, z_lltT, z_lltF, z_eqlT, z_eqlF, z_in, z_k7, z_cl, z_lneg, z_llT, z_llF, z_s1, z_nI_cl, z_nlt0, z_ne_m1, z_b0, z_b1, z_la, z_al, z_lm, z_ml, z_nm, nI_add, pk_mul, ↓reduceIte, not_true_eq_false, not_false_eq_true, true_or, or_true, false_or, or_false, true_and, and_true, and_false, false_and, Classical.not_not, Nat.add_zero, z_01, z_em, z_bit_p, Nat.not_le, Nat.not_lt, reduceCtorEq, if_true, if_false]) () I ⟨z_fr_r _ _, fun i => by rw [if_neg (by omega)]⟩
    have e6 : J 139 6 = nI 12 := (p1 139 6 rfl).trans h6
    obtain ⟨K, k1, k2, k3, k4, k5⟩ := l_rem29 X d (q_w J 139 6 (nI 11)) T 11 (by omega) (z_w_s _ _ _ _)
    refine ⟨K, ?_, ⟨k2, fun i k hi hk => ?_, fun k hk => ?_⟩, z_fr_t (z_fr_w (z_fr_m p1 (fun b k h => by simp at h; simp [h])) 139 6 _ rfl) k3⟩
    · rw [← k1]
      simp (disch := omega) only [h6, q_bd_l, z_ltT, z_ltF, z_eqT, z_eqF, z_ltlT, z_ltlF, z_lltT, z_lltF, z_eqlT, z_eqlF, z_in, z_k7, z_cl, z_lneg, z_llT, z_llF, z_s1, z_nI_cl, z_nlt0, z_ne_m1, z_b0, z_b1, z_la, z_al, z_lm, z_ml, z_nm, nI_add, pk_mul, ↓reduceIte, not_true_eq_false, not_false_eq_true, true_or, or_true, false_or, or_false, true_and, and_true, and_false, false_and, Classical.not_not, Nat.add_zero, z_01, z_em, z_bit_p, Nat.not_le, Nat.not_lt, reduceCtorEq, if_true, if_false]
      refine p4.trans ?_
      rw [e_X12_remembers_139_6]
      simp (disch := omega) only [e_X12_remembers_139_27, e6, q_bd_l, z_ltT, z_ltF, z_eqT, z_eqF, z_ltlT, z_ltlF, z_lltT, z_lltF, z_eqlT, z_eqlF, z_in, z_k7, z_cl, z_lneg, z_llT, z_llF, z_s1, z_nI_cl, z_nlt0, z_ne_m1, z_b0, z_b1, z_la, z_al, z_lm, z_ml, z_nm, nI_add, pk_mul, ↓reduceIte, not_true_eq_false, not_false_eq_true, true_or, or_true, false_or, or_false, true_and, and_true, and_false, false_and, Classical.not_not, Nat.add_zero, z_01, z_em, z_bit_p, Nat.not_le, Nat.not_lt, reduceCtorEq, if_true, if_false]
    · have hi : i < 11 := hi
      show K 143 (484 * i + k) = I 143 (484 * (i + 1) + k)
      rw [k4 _ (by omega), z_w_a _ _ _ _ _ (by decide), p2, if_pos (by omega)]
      congr 1
      omega
    · show K 143 (484 * 11 + k) = I 140 k
      rw [k5 k hk, z_w_a _ _ _ _ _ (by decide), p1 140 k rfl]
def R_take (j : Nat) (r : Nat → Int32) : Nat → Int32 := va_up (va_up r (12 + 13 * j + 2) (r (12 + 13 * j + 2) - 1)) (12 + 13 * j + 6) 1
theorem l_takes (X : Sx) (d : Nat) (I : Ii) (T : Tt) (j : Nat) (hj : j < 10) : ∃ K, c_X12_takes_139 X (d + 2) (nI j) I T = z_v K T ∧ z_fr (fun b _ => b == 140) I K ∧ K 140 = R_take j (I 140) := by
  refine ⟨q_w (q_w I 140 (12 + 13 * j + 2) (I 140 (12 + 13 * j + 2) - 1)) 140 (12 + 13 * j + 6) 1, ?_, z_fr_w (z_fr_w (z_fr_r _ _) 140 _ _ rfl) 140 _ _ rfl, by rw [z_w_row, z_w_row]; rfl⟩
  rw [e_X12_takes_139]
  simp (disch := omega) only [e_X12_takes_139, e_X12_takes_139_7, k_X12_takes_139_7, e_X12_takes_139_10, k_X12_takes_139_10, e_X12_takes_139_15, k_X12_takes_139_15, l_of, l_has, q_bd_l, z_ltT, z_ltF, z_eqT, z_eqF, z_ltlT, z_ltlF, z_lltT, z_lltF, z_eqlT, z_eqlF, z_in, z_k7, z_cl, z_lneg, z_llT, z_llF, z_s1, z_nI_cl, z_nlt0, z_ne_m1, z_b0, z_b1, z_la, z_al, z_lm, z_ml, z_nm, nI_add, pk_mul, ↓reduceIte, not_true_eq_false, not_false_eq_true, true_or, or_true, false_or, or_false, true_and, and_true, and_false, false_and, Classical.not_not, Nat.add_zero, z_01, z_em, z_bit_p, Nat.not_le, Nat.not_lt, reduceCtorEq, if_true, if_false]
/-- a row more in THE LOG -/
def R_log (j o t a : Int32) (r : Nat → Int32) : Nat → Int32 := fun i => if i = 10 then (if 60 < r 10 + 1 then 60 else r 10 + 1) else if i = 184 then r 8 else if i = 185 then j else if i = 186 then o else if i = 187 then t else if i = 188 then a else if 189 ≤ i ∧ i < 484 then r (i - 5) else r i
theorem l_writes (X : Sx) (d : Nat) (I : Ii) (T : Tt) (j o t a : Int32) : ∃ K, c_X12_writes_139 X (d + 2) j o t a I T = z_v K T ∧ z_fr (fun b _ => b == 140) I K ∧ K 140 = R_log j o t a (I 140) := by
  -- from place 299 down to 5
  obtain ⟨J, ⟨p1, p2⟩, p4⟩ := z_foldP (β := Unit) (σ := Ii) (fun k _ K => c_X12_writes_139_2 X (d + 1) j o t a (nI (299 - k)) K T) (fun _ u => u) (fun k _ K => z_fr (fun b _ => b == 140) I K ∧ ∀ i, K 140 i = if 484 - k ≤ i ∧ i < 484 then I 140 (i - 5) else I 140 i) 295 (by
    intro k _ K hk ⟨q1, q2⟩
    refine ⟨q_w K 140 (184 + (299 - k)) (K 140 (184 + (299 - k) - 5)), ⟨z_fr_w q1 140 _ _ rfl, fun i => ?_⟩, ?_⟩
    · by_cases e : i = 184 + (299 - k)
      · subst e
        rw [z_w_s, q2, if_neg (by omega), if_pos (by omega)]
      · rw [z_w_k _ _ _ _ _ e, q2]
        by_cases h1 : 484 - k ≤ i ∧ i < 484
        · rw [if_pos h1, if_pos (by omega)]
        · rw [if_neg h1, if_neg (by omega)]
    · rw [e_X12_writes_139_2]
      have e1 : nI (299 - k) + -1 = nI (299 - (k + 1)) := by
        have := pk_m1 (299 - (k + 1))
        rw [← this]
        congr 2
        omega
      simp (disch := omega) only [e1, q_bd_l, z_ltT, z_ltF, z_eqT, z_eqF, z_ltlT, z_ltlF, z_lltT, z_lltF, z_eqlT, z_eqlF, z_in, z_k7, z_cl, z_lneg, z_llT, z_llF, z_s1, z_nI_cl, z_nlt0, z_ne_m1, z_b0, z_b1, z_la, z_al, z_lm, z_ml, z_nm, nI_add, pk_mul, ↓reduceIte, not_true_eq_false, not_false_eq_true, true_or, or_true, false_or, or_false, true_and, and_true, and_false, false_and, Classical.not_not, Nat.add_zero, z_01, z_em, z_bit_p, Nat.not_le, Nat.not_lt, reduceCtorEq, if_true, if_false]) () I ⟨z_fr_r _ _, fun i => by rw [if_neg (by omega)]⟩
  refine ⟨q_w (q_w (q_w (q_w (q_w (q_w J 140 184 (J 140 8)) 140 185 j) 140 186 o) 140 187 t) 140 188 a) 140 10 (if 60 < I 140 10 + 1 then 60 else I 140 10 + 1), ?_, z_fr_w (z_fr_w (z_fr_w (z_fr_w (z_fr_w (z_fr_w p1 140 _ _ rfl) 140 _ _ rfl) 140 _ _ rfl) 140 _ _ rfl) 140 _ _ rfl) 140 _ _ rfl, ?_⟩
  · rw [e_X12_writes_139]
    refine p4.trans ?_
    have e10 : J 140 10 = I 140 10 := by rw [p2, if_neg (by omega)]
    rw [e_X12_writes_139_2]
    simp (disch := omega) only [e_X12_writes_139_60, k_X12_writes_139_60, l_lesser, e10, q_bd_l, z_ltT, z_ltF, z_eqT, z_eqF, z_ltlT, z_ltlF, z_lltT, z_lltF, z_eqlT, z_eqlF, z_in, z_k7, z_cl, z_lneg, z_llT, z_llF, z_s1, z_nI_cl, z_nlt0, z_ne_m1, z_b0, z_b1, z_la, z_al, z_lm, z_ml, z_nm, nI_add, pk_mul, ↓reduceIte, not_true_eq_false, not_false_eq_true, true_or, or_true, false_or, or_false, true_and, and_true, and_false, false_and, Classical.not_not, Nat.add_zero, z_01, z_em, z_bit_p, Nat.not_le, Nat.not_lt, reduceCtorEq, if_true, if_false]
  · funext i
    have e8 : J 140 8 = I 140 8 := by rw [p2, if_neg (by omega)]
    unfold R_log
    simp only [z_w, e8, true_and]
    by_cases h1 : i = 10
    · simp [h1]
    · by_cases h2 : i = 188
      · simp [h2]
      · by_cases h3 : i = 187
        · simp [h3]
        · by_cases h4 : i = 186
          · simp [h4]
          · by_cases h5 : i = 185
            · simp [h5]
            · by_cases h6 : i = 184
              · simp [h6]
              · simp only [h1, h2, h3, h4, h5, h6, ↓reduceIte, p2]
/-- an act that went through: what is remembered, the row behind it -/
def z_done (I K : Ii) (a : Nat) (r : Nat → Int32) : Prop := z_rem I K a ∧ z_fr m_act I K ∧ K 140 = r ∧ K 139 0 = 0
theorem z_rem0 {I J K : Ii} {a : Nat} (h : z_rem I J a) (h1 : K 139 6 = J 139 6) (h2 : ∀ k, K 143 k = J 143 k) : z_rem I K a := by
  obtain ⟨a1, a2, a3⟩ := h
  exact ⟨h1.trans a1, fun i k hi hk => by rw [h2]; exact a2 i k hi hk, fun k hk => by rw [h2]; exact a3 k hk⟩
theorem l_rem0 (X : Sx) (d : Nat) (I : Ii) (T : Tt) (a : Nat) (ha : a ≤ 12) (h6 : I 139 6 = nI a) : ∃ K, c_X12_remembers_139 X (d + 1) (q_w I 139 0 0) T = z_v K T ∧ z_done I K a (I 140) := by
  have e : (q_w I 139 0 0) 140 = I 140 := z_w_a _ _ _ _ _ (by decide)
  have e3 : (q_w I 139 0 0) 143 = I 143 := z_w_a _ _ _ _ _ (by decide)
  obtain ⟨K, k1, k2, k3⟩ := l_remembers X d (q_w I 139 0 0) T a ha (by rw [z_w_k _ _ _ _ _ (by decide)]; exact h6)
  refine ⟨K, k1, ?_, ?_, ?_, ?_⟩
  · obtain ⟨a1, a2, a3⟩ := k2
    exact ⟨a1, fun i k hi hk => by rw [a2 i k hi hk, e3], fun k hk => by rw [a3 k hk, e]⟩
  · exact z_fr_t (z_fr_m (z_q0 I 0) (fun a k h => by simp [m_act, h])) (z_fr_m k3 (fun b k h => by simp at h; rcases h with h | h <;> simp [m_act, h]))
  · exact (z_fr_row k3 140 (fun _ => rfl)).trans e
  · rw [k3 139 0 rfl]; exact z_w_s _ _ _ _
theorem z_done_m {I J K : Ii} {a : Nat} {r r' : Nat → Int32} (h : z_done I J a r) (hf : z_fr (fun b k => m_r b k || b == 140) J K) (hr : K 140 = r') : z_done I K a r' := by
  obtain ⟨h1, h2, h3, h4⟩ := h
  refine ⟨z_rem0 h1 (hf 139 6 (by simp [m_r])) (fun k => hf 143 k (by simp [m_r])), z_fr_t h2 (z_fr_m hf (fun b k h => ?_)), hr, (hf 139 0 (by simp [m_r])).trans h4⟩
  simp at h
  rcases h with h | h <;> simp [m_act, m_q, h]
theorem z_fr_140 {I J : Ii} (h : z_fr (fun b _ => b == 140) I J) : z_fr (fun b k => m_r b k || b == 140) I J := z_fr_m h (fun b k h => by simp at h; simp [h])
theorem z_fr_mr {I J : Ii} (h : z_fr m_r I J) : z_fr (fun b k => m_r b k || b == 140) I J := z_fr_m h (fun b k h => by simp [h])
theorem l_ask1 (X : Sx) (d : Nat) (I : Ii) (T : Tt) (n j t a : Nat) (h : R_g n (I 140)) (ha : a ≤ 12) (h6 : I 139 6 = nI a) (hj : j < n) (ht : t < 6) (hs : I 140 (12 + 13 * j + 2) ≠ 0) : ∃ K, c_X12_ask_139 X (d + 36) (nI j) (nI t) I T = z_r (R_adv (I 140) j t) K T ∧ z_done I K a (R_log (nI j) (-1) (nI t) (R_adv (I 140) j t) (R_take j (I 140))) := by
  have h10 := h.2.1
  obtain ⟨J, j1, j2⟩ := l_rem0 X (d + 34) I T a ha h6
  have eJ := j2.2.2.1
  obtain ⟨K, k1, k2⟩ := l_adv X (d + 1) J T j t (by omega) ht (by rw [eJ]; exact h.2.2)
  rw [eJ] at k1
  have dK := z_done_m j2 (z_fr_mr k2) ((z_r140 k2).trans eJ)
  obtain ⟨L, l1, l2, l3⟩ := l_takes X (d + 33) K T j (by omega)
  have dL := z_done_m dK (z_fr_140 l2) (l3.trans (by rw [dK.2.2.1]))
  obtain ⟨M, m1, m2, m3⟩ := l_writes X (d + 33) L T (nI j) (-1) (nI t) (R_adv (I 140) j t)
  have dM := z_done_m dL (z_fr_140 m2) (m3.trans (by rw [dL.2.2.1]))
  refine ⟨M, ?_, dM⟩
  rw [e_X12_ask_139, l_jar1 X _ I T n j h.1 h10 hj]
  simp (disch := omega) only [e_X12_ask_139, e_X12_ask_139_4, k_X12_ask_139_4, e_X12_ask_139_7, k_X12_ask_139_7, e_X12_ask_139_8, e_X12_ask_139_14, k_X12_ask_139_14, e_X12_ask_139_18, e_X12_ask_139_26, k_X12_ask_139_26, e_X12_ask_139_30, k_X12_ask_139_30, e_X12_ask_139_34, k_X12_ask_139_34, e_X12_ask_139_40, k_X12_ask_139_40, l_mat1 X _ I T t ht, l_of, hs, j1, k1, l1, m1, q_bd_l, z_ltT, z_ltF, z_eqT, z_eqF, z_ltlT, z_ltlF, z_lltT, z_lltF, z_eqlT, z_eqlF, z_in, z_k7, z_cl, z_lneg, z_llT, z_llF, z_s1, z_nI_cl, z_nlt0, z_ne_m1, z_b0, z_b1, z_la, z_al, z_lm, z_ml, z_nm, nI_add, pk_mul, ↓reduceIte, not_true_eq_false, not_false_eq_true, true_or, or_true, false_or, or_false, true_and, and_true, and_false, false_and, Classical.not_not, Nat.add_zero, z_01, z_em, z_bit_p, Nat.not_le, Nat.not_lt, reduceCtorEq, if_true, if_false]
theorem l_ask0 (X : Sx) (d : Nat) (I : Ii) (T : Tt) (n : Nat) (v u c : Int32) (h3 : I 140 3 = nI n) (hn : n ≤ 10) (hc : c = 1 ∧ z_no v n ∨ c = 1 ∧ (∃ k, k < n ∧ v = nI k) ∧ z_no u 6 ∨ c = 2 ∧ ∃ j t, j < n ∧ t < 6 ∧ v = nI j ∧ u = nI t ∧ I 140 (12 + 13 * j + 2) = 0) : c_X12_ask_139 X (d + 36) v u I T = z_r 0 (q_w I 139 0 c) T := by
  rw [e_X12_ask_139]
  rcases hc with ⟨rfl, hv⟩ | ⟨rfl, ⟨k, hk, rfl⟩, hu⟩ | ⟨rfl, j, t, hj, ht, rfl, rfl, hs⟩
  · rw [l_jar0 X _ v I T n h3 hn hv]
    simp (disch := omega) only [e_X12_ask_139, e_X12_ask_139_4, k_X12_ask_139_4, e_X12_ask_139_7, k_X12_ask_139_7, e_X12_ask_139_8, e_X12_ask_139_14, k_X12_ask_139_14, e_X12_ask_139_18, e_X12_ask_139_26, k_X12_ask_139_26, e_X12_ask_139_30, k_X12_ask_139_30, e_X12_ask_139_34, k_X12_ask_139_34, e_X12_ask_139_40, k_X12_ask_139_40, q_bd_l, z_ltT, z_ltF, z_eqT, z_eqF, z_ltlT, z_ltlF, z_lltT, z_lltF, z_eqlT, z_eqlF, z_in, z_k7, z_cl, z_lneg, z_llT, z_llF, z_s1, z_nI_cl, z_nlt0, z_ne_m1, z_b0, z_b1, z_la, z_al, z_lm, z_ml, z_nm, nI_add, pk_mul, ↓reduceIte, not_true_eq_false, not_false_eq_true, true_or, or_true, false_or, or_false, true_and, and_true, and_false, false_and, Classical.not_not, Nat.add_zero, z_01, z_em, z_bit_p, Nat.not_le, Nat.not_lt, reduceCtorEq, if_true, if_false]
  · rw [l_jar1 X _ I T n k h3 hn hk]
    simp (disch := omega) only [e_X12_ask_139, e_X12_ask_139_4, k_X12_ask_139_4, e_X12_ask_139_7, k_X12_ask_139_7, e_X12_ask_139_8, e_X12_ask_139_14, k_X12_ask_139_14, e_X12_ask_139_18, e_X12_ask_139_26, k_X12_ask_139_26, e_X12_ask_139_30, k_X12_ask_139_30, e_X12_ask_139_34, k_X12_ask_139_34, e_X12_ask_139_40, k_X12_ask_139_40, l_mat0 X _ u I T hu, q_bd_l, z_ltT, z_ltF, z_eqT, z_eqF, z_ltlT, z_ltlF, z_lltT, z_lltF, z_eqlT, z_eqlF, z_in, z_k7, z_cl, z_lneg, z_llT, z_llF, z_s1, z_nI_cl, z_nlt0, z_ne_m1, z_b0, z_b1, z_la, z_al, z_lm, z_ml, z_nm, nI_add, pk_mul, ↓reduceIte, not_true_eq_false, not_false_eq_true, true_or, or_true, false_or, or_false, true_and, and_true, and_false, false_and, Classical.not_not, Nat.add_zero, z_01, z_em, z_bit_p, Nat.not_le, Nat.not_lt, reduceCtorEq, if_true, if_false]
  · rw [l_jar1 X _ I T n j h3 hn hj]
    simp (disch := omega) only [e_X12_ask_139, e_X12_ask_139_4, k_X12_ask_139_4, e_X12_ask_139_7, k_X12_ask_139_7, e_X12_ask_139_8, e_X12_ask_139_14, k_X12_ask_139_14, e_X12_ask_139_18, e_X12_ask_139_26, k_X12_ask_139_26, e_X12_ask_139_30, k_X12_ask_139_30, e_X12_ask_139_34, k_X12_ask_139_34, e_X12_ask_139_40, k_X12_ask_139_40, l_mat1 X _ I T t ht, l_of, hs, q_bd_l, z_ltT, z_ltF, z_eqT, z_eqF, z_ltlT, z_ltlF, z_lltT, z_lltF, z_eqlT, z_eqlF, z_in, z_k7, z_cl, z_lneg, z_llT, z_llF, z_s1, z_nI_cl, z_nlt0, z_ne_m1, z_b0, z_b1, z_la, z_al, z_lm, z_ml, z_nm, nI_add, pk_mul, ↓reduceIte, not_true_eq_false, not_false_eq_true, true_or, or_true, false_or, or_false, true_and, and_true, and_false, false_and, Classical.not_not, Nat.add_zero, z_01, z_em, z_bit_p, Nat.not_le, Nat.not_lt, reduceCtorEq, if_true, if_false]
theorem l_mix1 (X : Sx) (d : Nat) (I : Ii) (T : Tt) (n j o t a : Nat) (h : R_g n (I 140)) (ha : a ≤ 12) (h6 : I 139 6 = nI a) (hj : j < n) (ho : o < n) (hne : j ≠ o) (ht : t < 6) (hs : I 140 (12 + 13 * j + 2) ≠ 0) (hs2 : I 140 (12 + 13 * o + 2) ≠ 0) : ∃ K, c_X12_mix_139 X (d + 37) (nI j) (nI o) (nI t) I T = z_r (R_mx (I 140) j o t) K T ∧ z_done I K a (R_log (nI j) (nI o) (nI t) (R_mx (I 140) j o t) (R_take o (R_take j (I 140)))) := by
  have h10 := h.2.1
  obtain ⟨J, j1, j2⟩ := l_rem0 X (d + 35) I T a ha h6
  have eJ := j2.2.2.1
  obtain ⟨K, k1, k2⟩ := l_mixed X d J T j o t (by omega) (by omega) ht (by rw [eJ]; exact h.2.2)
  rw [eJ] at k1
  have dK := z_done_m j2 (z_fr_mr k2) ((z_r140 k2).trans eJ)
  obtain ⟨L, l1, l2, l3⟩ := l_takes X (d + 34) K T j (by omega)
  have dL := z_done_m dK (z_fr_140 l2) (l3.trans (by rw [dK.2.2.1]))
  obtain ⟨L2, p1, p2, p3⟩ := l_takes X (d + 34) L T o (by omega)
  have dL2 := z_done_m dL (z_fr_140 p2) (p3.trans (by rw [dL.2.2.1]))
  obtain ⟨M, m1, m2, m3⟩ := l_writes X (d + 34) L2 T (nI j) (nI o) (nI t) (R_mx (I 140) j o t)
  have dM := z_done_m dL2 (z_fr_140 m2) (m3.trans (by rw [dL2.2.2.1]))
  refine ⟨M, ?_, dM⟩
  rw [e_X12_mix_139, l_two X _ I T n h.1 h10 _ _ _ 0 (.inr (.inr ⟨rfl, j, o, t, hj, ho, hne, ht, rfl, rfl, rfl⟩))]
  simp (disch := omega) only [e_X12_mix_139, e_X12_mix_139_6, k_X12_mix_139_6, e_X12_mix_139_12, k_X12_mix_139_12, e_X12_mix_139_17, k_X12_mix_139_17, e_X12_mix_139_22, k_X12_mix_139_22, e_X12_mix_139_23, e_X12_mix_139_26, e_X12_mix_139_34, k_X12_mix_139_34, e_X12_mix_139_39, k_X12_mix_139_39, e_X12_mix_139_43, k_X12_mix_139_43, e_X12_mix_139_46, k_X12_mix_139_46, e_X12_mix_139_52, k_X12_mix_139_52, l_of, hs, hs2, j1, k1, l1, p1, m1, q_bd_l, z_ltT, z_ltF, z_eqT, z_eqF, z_ltlT, z_ltlF, z_lltT, z_lltF, z_eqlT, z_eqlF, z_in, z_k7, z_cl, z_lneg, z_llT, z_llF, z_s1, z_nI_cl, z_nlt0, z_ne_m1, z_b0, z_b1, z_la, z_al, z_lm, z_ml, z_nm, nI_add, pk_mul, ↓reduceIte, not_true_eq_false, not_false_eq_true, true_or, or_true, false_or, or_false, true_and, and_true, and_false, false_and, Classical.not_not, Nat.add_zero, z_01, z_em, z_bit_p, Nat.not_le, Nat.not_lt, reduceCtorEq, if_true, if_false]
theorem l_mix0 (X : Sx) (d : Nat) (I : Ii) (T : Tt) (n : Nat) (v u w c : Int32) (h3 : I 140 3 = nI n) (hn : n ≤ 10) (hc : z_two n v u w c ∧ (c = 1 ∨ c = 2) ∨ c = 3 ∧ ∃ j o t, j < n ∧ o < n ∧ j ≠ o ∧ t < 6 ∧ v = nI j ∧ u = nI o ∧ w = nI t ∧ (I 140 (12 + 13 * j + 2) = 0 ∨ I 140 (12 + 13 * o + 2) = 0)) : c_X12_mix_139 X (d + 37) v u w I T = z_r 0 (q_w I 139 0 c) T := by
  rw [e_X12_mix_139]
  rcases hc with ⟨h2, h0⟩ | ⟨rfl, j, o, t, hj, ho, hne, ht, rfl, rfl, rfl, hs⟩
  · rw [l_two X _ I T n h3 hn _ _ _ c h2]
    rcases h0 with rfl | rfl <;> simp (disch := omega) only [e_X12_mix_139, e_X12_mix_139_6, k_X12_mix_139_6, e_X12_mix_139_12, k_X12_mix_139_12, e_X12_mix_139_17, k_X12_mix_139_17, e_X12_mix_139_22, k_X12_mix_139_22, e_X12_mix_139_23, e_X12_mix_139_26, e_X12_mix_139_34, k_X12_mix_139_34, e_X12_mix_139_39, k_X12_mix_139_39, e_X12_mix_139_43, k_X12_mix_139_43, e_X12_mix_139_46, k_X12_mix_139_46, e_X12_mix_139_52, k_X12_mix_139_52, l_two X _ I T n h3 hn _ _ _ _ h2, q_bd_l, z_ltT, z_ltF, z_eqT, z_eqF, z_ltlT, z_ltlF, z_lltT, z_lltF, z_eqlT, z_eqlF, z_in, z_k7, z_cl, z_lneg, z_llT, z_llF, z_s1, z_nI_cl, z_nlt0, z_ne_m1, z_b0, z_b1, z_la, z_al, z_lm, z_ml, z_nm, nI_add, pk_mul, ↓reduceIte, not_true_eq_false, not_false_eq_true, true_or, or_true, false_or, or_false, true_and, and_true, and_false, false_and, Classical.not_not, Nat.add_zero, z_01, z_em, z_bit_p, Nat.not_le, Nat.not_lt, reduceCtorEq, if_true, if_false]
  · rw [l_two X _ I T n h3 hn _ _ _ 0 (.inr (.inr ⟨rfl, j, o, t, hj, ho, hne, ht, rfl, rfl, rfl⟩))]
    by_cases h1 : I 140 (12 + 13 * j + 2) = 0
    · simp (disch := omega) only [e_X12_mix_139, e_X12_mix_139_6, k_X12_mix_139_6, e_X12_mix_139_12, k_X12_mix_139_12, e_X12_mix_139_17, k_X12_mix_139_17, e_X12_mix_139_22, k_X12_mix_139_22, e_X12_mix_139_23, e_X12_mix_139_26, e_X12_mix_139_34, k_X12_mix_139_34, e_X12_mix_139_39, k_X12_mix_139_39, e_X12_mix_139_43, k_X12_mix_139_43, e_X12_mix_139_46, k_X12_mix_139_46, e_X12_mix_139_52, k_X12_mix_139_52, l_of, h1, q_bd_l, z_ltT, z_ltF, z_eqT, z_eqF, z_ltlT, z_ltlF, z_lltT, z_lltF, z_eqlT, z_eqlF, z_in, z_k7, z_cl, z_lneg, z_llT, z_llF, z_s1, z_nI_cl, z_nlt0, z_ne_m1, z_b0, z_b1, z_la, z_al, z_lm, z_ml, z_nm, nI_add, pk_mul, ↓reduceIte, not_true_eq_false, not_false_eq_true, true_or, or_true, false_or, or_false, true_and, and_true, and_false, false_and, Classical.not_not, Nat.add_zero, z_01, z_em, z_bit_p, Nat.not_le, Nat.not_lt, reduceCtorEq, if_true, if_false]
    · have h2 : I 140 (12 + 13 * o + 2) = 0 := by rcases hs with h | h; exact absurd h h1; exact h
      simp (disch := omega) only [e_X12_mix_139, e_X12_mix_139_6, k_X12_mix_139_6, e_X12_mix_139_12, k_X12_mix_139_12, e_X12_mix_139_17, k_X12_mix_139_17, e_X12_mix_139_22, k_X12_mix_139_22, e_X12_mix_139_23, e_X12_mix_139_26, e_X12_mix_139_34, k_X12_mix_139_34, e_X12_mix_139_39, k_X12_mix_139_39, e_X12_mix_139_43, k_X12_mix_139_43, e_X12_mix_139_46, k_X12_mix_139_46, e_X12_mix_139_52, k_X12_mix_139_52, l_of, h1, h2, q_bd_l, z_ltT, z_ltF, z_eqT, z_eqF, z_ltlT, z_ltlF, z_lltT, z_lltF, z_eqlT, z_eqlF, z_in, z_k7, z_cl, z_lneg, z_llT, z_llF, z_s1, z_nI_cl, z_nlt0, z_ne_m1, z_b0, z_b1, z_la, z_al, z_lm, z_ml, z_nm, nI_add, pk_mul, ↓reduceIte, not_true_eq_false, not_false_eq_true, true_or, or_true, false_or, or_false, true_and, and_true, and_false, false_and, Classical.not_not, Nat.add_zero, z_01, z_em, z_bit_p, Nat.not_le, Nat.not_lt, reduceCtorEq, if_true, if_false]
theorem z_done_w {I J : Ii} {a : Nat} {r : Nat → Int32} (h : z_done I J a r) (k : Nat) (v : Int32) : z_done I (q_w J 140 k v) a (va_up r k v) := z_done_m h (z_fr_w (z_fr_r _ _) 140 k v (by simp)) (by rw [z_w_row, h.2.2.1])
theorem l_close1 (X : Sx) (d : Nat) (I : Ii) (T : Tt) (n j a : Nat) (h3 : I 140 3 = nI n) (hn : n ≤ 10) (ha : a ≤ 12) (h6 : I 139 6 = nI a) (hj : j < n) : ∃ K, c_X12_close_139 X (d + 3) (nI j) I T = z_r (z_b (I 140 (12 + 13 * j + 6) = 1)) K T ∧ z_done I K a (va_up (I 140) (12 + 13 * j + 6) 0) := by
  obtain ⟨J, j1, j2⟩ := l_rem0 X (d + 1) I T a ha h6
  refine ⟨_, ?_, z_done_w j2 (12 + 13 * j + 6) 0⟩
  have e := j2.2.2.1
  rw [e_X12_close_139, l_jar1 X _ I T n j h3 hn hj]
  unfold z_b
  by_cases ho : I 140 (12 + 13 * j + 6) = 1 <;> simp (disch := omega) only [e_X12_close_139, e_X12_close_139_4, k_X12_close_139_4, e_X12_close_139_8, e_X12_close_139_16, k_X12_close_139_16, e_X12_close_139_20, k_X12_close_139_20, e_X12_close_139_25, e_X12_close_139_31, k_X12_close_139_31, j1, l_of, l_has, e, ho, q_bd_l, z_ltT, z_ltF, z_eqT, z_eqF, z_ltlT, z_ltlF, z_lltT, z_lltF, z_eqlT, z_eqlF, z_in, z_k7, z_cl, z_lneg, z_llT, z_llF, z_s1, z_nI_cl, z_nlt0, z_ne_m1, z_b0, z_b1, z_la, z_al, z_lm, z_ml, z_nm, nI_add, pk_mul, ↓reduceIte, not_true_eq_false, not_false_eq_true, true_or, or_true, false_or, or_false, true_and, and_true, and_false, false_and, Classical.not_not, Nat.add_zero, z_01, z_em, z_bit_p, Nat.not_le, Nat.not_lt, reduceCtorEq, if_true, if_false]
theorem l_close0 (X : Sx) (d : Nat) (I : Ii) (T : Tt) (n : Nat) (v : Int32) (h3 : I 140 3 = nI n) (hn : n ≤ 10) (hv : z_no v n) : c_X12_close_139 X (d + 3) v I T = z_r 0 (q_w I 139 0 1) T := by
  rw [e_X12_close_139, l_jar0 X _ v I T n h3 hn hv]
  simp (disch := omega) only [e_X12_close_139, e_X12_close_139_4, k_X12_close_139_4, e_X12_close_139_8, e_X12_close_139_16, k_X12_close_139_16, e_X12_close_139_20, k_X12_close_139_20, e_X12_close_139_25, e_X12_close_139_31, k_X12_close_139_31, q_bd_l, z_ltT, z_ltF, z_eqT, z_eqF, z_ltlT, z_ltlF, z_lltT, z_lltF, z_eqlT, z_eqlF, z_in, z_k7, z_cl, z_lneg, z_llT, z_llF, z_s1, z_nI_cl, z_nlt0, z_ne_m1, z_b0, z_b1, z_la, z_al, z_lm, z_ml, z_nm, nI_add, pk_mul, ↓reduceIte, not_true_eq_false, not_false_eq_true, true_or, or_true, false_or, or_false, true_and, and_true, and_false, false_and, Classical.not_not, Nat.add_zero, z_01, z_em, z_bit_p, Nat.not_le, Nat.not_lt, reduceCtorEq, if_true, if_false]
theorem l_label1 (X : Sx) (d : Nat) (I : Ii) (T : Tt) (n j a : Nat) (u : Int32) (h3 : I 140 3 = nI n) (hn : n ≤ 10) (ha : a ≤ 12) (h6 : I 139 6 = nI a) (hj : j < n) (hu : u = -1 ∨ ∃ k, k < n ∧ u = nI k) : ∃ K, c_X12_label_139 X (d + 3) (nI j) u I T = z_r (I 140 (12 + 13 * j + 5)) K T ∧ z_done I K a (va_up (I 140) (12 + 13 * j + 5) u) := by
  obtain ⟨J, j1, j2⟩ := l_rem0 X (d + 1) I T a ha h6
  refine ⟨_, ?_, z_done_w j2 (12 + 13 * j + 5) u⟩
  have e := j2.2.2.1
  rw [e_X12_label_139, l_jar1 X _ I T n j h3 hn hj]
  by_cases hm : u = -1
  · simp (disch := omega) only [e_X12_label_139, e_X12_label_139_4, k_X12_label_139_4, e_X12_label_139_11, k_X12_label_139_11, e_X12_label_139_12, e_X12_label_139_14, e_X12_label_139_15, e_X12_label_139_23, k_X12_label_139_23, e_X12_label_139_27, k_X12_label_139_27, e_X12_label_139_33, k_X12_label_139_33, j1, l_of, l_has, e, hm, q_bd_l, z_ltT, z_ltF, z_eqT, z_eqF, z_ltlT, z_ltlF, z_lltT, z_lltF, z_eqlT, z_eqlF, z_in, z_k7, z_cl, z_lneg, z_llT, z_llF, z_s1, z_nI_cl, z_nlt0, z_ne_m1, z_b0, z_b1, z_la, z_al, z_lm, z_ml, z_nm, nI_add, pk_mul, ↓reduceIte, not_true_eq_false, not_false_eq_true, true_or, or_true, false_or, or_false, true_and, and_true, and_false, false_and, Classical.not_not, Nat.add_zero, z_01, z_em, z_bit_p, Nat.not_le, Nat.not_lt, reduceCtorEq, if_true, if_false]
  · obtain ⟨k, hk, rfl⟩ : ∃ k, k < n ∧ u = nI k := by rcases hu with h | h; exact absurd h hm; exact h
    simp (disch := omega) only [e_X12_label_139, e_X12_label_139_4, k_X12_label_139_4, e_X12_label_139_11, k_X12_label_139_11, e_X12_label_139_12, e_X12_label_139_14, e_X12_label_139_15, e_X12_label_139_23, k_X12_label_139_23, e_X12_label_139_27, k_X12_label_139_27, e_X12_label_139_33, k_X12_label_139_33, l_jar1 X _ I T n k h3 hn hk, j1, l_of, l_has, e, hm, q_bd_l, z_ltT, z_ltF, z_eqT, z_eqF, z_ltlT, z_ltlF, z_lltT, z_lltF, z_eqlT, z_eqlF, z_in, z_k7, z_cl, z_lneg, z_llT, z_llF, z_s1, z_nI_cl, z_nlt0, z_ne_m1, z_b0, z_b1, z_la, z_al, z_lm, z_ml, z_nm, nI_add, pk_mul, ↓reduceIte, not_true_eq_false, not_false_eq_true, true_or, or_true, false_or, or_false, true_and, and_true, and_false, false_and, Classical.not_not, Nat.add_zero, z_01, z_em, z_bit_p, Nat.not_le, Nat.not_lt, reduceCtorEq, if_true, if_false]
theorem l_label0 (X : Sx) (d : Nat) (I : Ii) (T : Tt) (n : Nat) (v u : Int32) (h3 : I 140 3 = nI n) (hn : n ≤ 10) (hv : z_no v n ∨ (∃ j, j < n ∧ v = nI j) ∧ u ≠ -1 ∧ z_no u n) : c_X12_label_139 X (d + 3) v u I T = z_r 0 (q_w I 139 0 1) T := by
  rw [e_X12_label_139]
  rcases hv with hv | ⟨⟨j, hj, rfl⟩, hm, hu⟩
  · rw [l_jar0 X _ v I T n h3 hn hv]
    simp (disch := omega) only [e_X12_label_139, e_X12_label_139_4, k_X12_label_139_4, e_X12_label_139_11, k_X12_label_139_11, e_X12_label_139_12, e_X12_label_139_14, e_X12_label_139_15, e_X12_label_139_23, k_X12_label_139_23, e_X12_label_139_27, k_X12_label_139_27, e_X12_label_139_33, k_X12_label_139_33, q_bd_l, z_ltT, z_ltF, z_eqT, z_eqF, z_ltlT, z_ltlF, z_lltT, z_lltF, z_eqlT, z_eqlF, z_in, z_k7, z_cl, z_lneg, z_llT, z_llF, z_s1, z_nI_cl, z_nlt0, z_ne_m1, z_b0, z_b1, z_la, z_al, z_lm, z_ml, z_nm, nI_add, pk_mul, ↓reduceIte, not_true_eq_false, not_false_eq_true, true_or, or_true, false_or, or_false, true_and, and_true, and_false, false_and, Classical.not_not, Nat.add_zero, z_01, z_em, z_bit_p, Nat.not_le, Nat.not_lt, reduceCtorEq, if_true, if_false]
  · rw [l_jar1 X _ I T n j h3 hn hj]
    simp (disch := omega) only [e_X12_label_139, e_X12_label_139_4, k_X12_label_139_4, e_X12_label_139_11, k_X12_label_139_11, e_X12_label_139_12, e_X12_label_139_14, e_X12_label_139_15, e_X12_label_139_23, k_X12_label_139_23, e_X12_label_139_27, k_X12_label_139_27, e_X12_label_139_33, k_X12_label_139_33, hm, l_jar0 X _ u I T n h3 hn hu, q_bd_l, z_ltT, z_ltF, z_eqT, z_eqF, z_ltlT, z_ltlF, z_lltT, z_lltF, z_eqlT, z_eqlF, z_in, z_k7, z_cl, z_lneg, z_llT, z_llF, z_s1, z_nI_cl, z_nlt0, z_ne_m1, z_b0, z_b1, z_la, z_al, z_lm, z_ml, z_nm, nI_add, pk_mul, ↓reduceIte, not_true_eq_false, not_false_eq_true, true_or, or_true, false_or, or_false, true_and, and_true, and_false, false_and, Classical.not_not, Nat.add_zero, z_01, z_em, z_bit_p, Nat.not_le, Nat.not_lt, reduceCtorEq, if_true, if_false]
/-- who has the place, and the row behind the move -/
def R_on (r : Nat → Int32) (n : Nat) (p : Int32) : Nat := z_fst (fun i => decide (r (12 + 13 * i + 1) = p)) n
def R_mov (r : Nat → Int32) (n j : Nat) (p : Int32) : Nat → Int32 := if R_on r n p = j then r else if R_on r n p < n then va_up (va_up r (12 + 13 * R_on r n p + 1) (r (12 + 13 * j + 1))) (12 + 13 * j + 1) p else va_up r (12 + 13 * j + 1) p
theorem l_move1 (X : Sx) (d : Nat) (I : Ii) (T : Tt) (n j p a : Nat) (h3 : I 140 3 = nI n) (hn : n ≤ 10) (ha : a ≤ 12) (h6 : I 139 6 = nI a) (hj : j < n) (hp : p < 12) : ∃ K, c_X12_move_139 X (d + 3) (nI j) (nI p) I T = z_r (if R_on (I 140) n (nI p) = j then -1 else if R_on (I 140) n (nI p) < n then nI (R_on (I 140) n (nI p)) else -1) K T ∧ z_done I K a (R_mov (I 140) n j (nI p)) := by
  obtain ⟨J, j1, j2⟩ := l_rem0 X (d + 1) I T a ha h6
  have e := j2.2.2.1
  have ja := l_jarAt X d (nI p) J T n (by rw [e]; exact h3) hn
  rw [e] at ja
  have eo : z_fst (fun i => decide (I 140 (12 + 13 * i + 1) = nI p)) n = R_on (I 140) n (nI p) := rfl
  rw [eo] at ja
  have hle : R_on (I 140) n (nI p) ≤ n := z_fst_le _ _
  rw [e_X12_move_139, l_jar1 X _ I T n j h3 hn hj]
  unfold R_mov
  generalize R_on (I 140) n (nI p) = o at *
  by_cases ho : o = j
  · refine ⟨J, ?_, by rw [if_pos ho]; exact j2⟩
    simp (disch := omega) only [e_X12_move_139, e_X12_move_139_4, k_X12_move_139_4, e_X12_move_139_7, k_X12_move_139_7, e_X12_move_139_8, e_X12_move_139_11, e_X12_move_139_19, k_X12_move_139_19, e_X12_move_139_22, k_X12_move_139_22, e_X12_move_139_38, k_X12_move_139_38, e_X12_move_139_39, k_X12_move_139_39, e_X12_move_139_44, k_X12_move_139_44, l_pla1 X _ I T p hp, j1, ja, ho, hj, q_bd_l, z_ltT, z_ltF, z_eqT, z_eqF, z_ltlT, z_ltlF, z_lltT, z_lltF, z_eqlT, z_eqlF, z_in, z_k7, z_cl, z_lneg, z_llT, z_llF, z_s1, z_nI_cl, z_nlt0, z_ne_m1, z_b0, z_b1, z_la, z_al, z_lm, z_ml, z_nm, nI_add, pk_mul, ↓reduceIte, not_true_eq_false, not_false_eq_true, true_or, or_true, false_or, or_false, true_and, and_true, and_false, false_and, Classical.not_not, Nat.add_zero, z_01, z_em, z_bit_p, Nat.not_le, Nat.not_lt, reduceCtorEq, if_true, if_false]
  · by_cases h1 : o < n
    · refine ⟨q_w (q_w J 140 (12 + 13 * o + 1) (I 140 (12 + 13 * j + 1))) 140 (12 + 13 * j + 1) (nI p), ?_, by rw [if_neg ho, if_pos h1]; exact z_done_w (z_done_w j2 _ _) _ _⟩
      simp (disch := omega) only [e_X12_move_139, e_X12_move_139_4, k_X12_move_139_4, e_X12_move_139_7, k_X12_move_139_7, e_X12_move_139_8, e_X12_move_139_11, e_X12_move_139_19, k_X12_move_139_19, e_X12_move_139_22, k_X12_move_139_22, e_X12_move_139_38, k_X12_move_139_38, e_X12_move_139_39, k_X12_move_139_39, e_X12_move_139_44, k_X12_move_139_44, l_pla1 X _ I T p hp, j1, ja, ho, h1, l_of, l_has, e, q_bd_l, z_ltT, z_ltF, z_eqT, z_eqF, z_ltlT, z_ltlF, z_lltT, z_lltF, z_eqlT, z_eqlF, z_in, z_k7, z_cl, z_lneg, z_llT, z_llF, z_s1, z_nI_cl, z_nlt0, z_ne_m1, z_b0, z_b1, z_la, z_al, z_lm, z_ml, z_nm, nI_add, pk_mul, ↓reduceIte, not_true_eq_false, not_false_eq_true, true_or, or_true, false_or, or_false, true_and, and_true, and_false, false_and, Classical.not_not, Nat.add_zero, z_01, z_em, z_bit_p, Nat.not_le, Nat.not_lt, reduceCtorEq, if_true, if_false]
    · refine ⟨q_w J 140 (12 + 13 * j + 1) (nI p), ?_, by rw [if_neg ho, if_neg h1]; exact z_done_w j2 _ _⟩
      have e9 : (-1 = nI j) = False := eq_false (fun h9 => (z_ne_m1 j (by omega)).mp h9.symm)
      simp (disch := omega) only [e_X12_move_139, e_X12_move_139_4, k_X12_move_139_4, e_X12_move_139_7, k_X12_move_139_7, e_X12_move_139_8, e_X12_move_139_11, e_X12_move_139_19, k_X12_move_139_19, e_X12_move_139_22, k_X12_move_139_22, e_X12_move_139_38, k_X12_move_139_38, e_X12_move_139_39, k_X12_move_139_39, e_X12_move_139_44, k_X12_move_139_44, l_pla1 X _ I T p hp, j1, ja, ho, h1, l_has, e9, q_bd_l, z_ltT, z_ltF, z_eqT, z_eqF, z_ltlT, z_ltlF, z_lltT, z_lltF, z_eqlT, z_eqlF, z_in, z_k7, z_cl, z_lneg, z_llT, z_llF, z_s1, z_nI_cl, z_nlt0, z_ne_m1, z_b0, z_b1, z_la, z_al, z_lm, z_ml, z_nm, nI_add, pk_mul, ↓reduceIte, not_true_eq_false, not_false_eq_true, true_or, or_true, false_or, or_false, true_and, and_true, and_false, false_and, Classical.not_not, Nat.add_zero, z_01, z_em, z_bit_p, Nat.not_le, Nat.not_lt, reduceCtorEq, if_true, if_false]
theorem l_move0 (X : Sx) (d : Nat) (I : Ii) (T : Tt) (n : Nat) (v u : Int32) (h3 : I 140 3 = nI n) (hn : n ≤ 10) (hv : z_no v n ∨ (∃ j, j < n ∧ v = nI j) ∧ z_no u 12) : c_X12_move_139 X (d + 3) v u I T = z_r 0 (q_w I 139 0 1) T := by
  rw [e_X12_move_139]
  rcases hv with hv | ⟨⟨j, hj, rfl⟩, hu⟩
  · rw [l_jar0 X _ v I T n h3 hn hv]
    simp (disch := omega) only [e_X12_move_139, e_X12_move_139_4, k_X12_move_139_4, e_X12_move_139_7, k_X12_move_139_7, e_X12_move_139_8, e_X12_move_139_11, e_X12_move_139_19, k_X12_move_139_19, e_X12_move_139_22, k_X12_move_139_22, e_X12_move_139_38, k_X12_move_139_38, e_X12_move_139_39, k_X12_move_139_39, e_X12_move_139_44, k_X12_move_139_44, q_bd_l, z_ltT, z_ltF, z_eqT, z_eqF, z_ltlT, z_ltlF, z_lltT, z_lltF, z_eqlT, z_eqlF, z_in, z_k7, z_cl, z_lneg, z_llT, z_llF, z_s1, z_nI_cl, z_nlt0, z_ne_m1, z_b0, z_b1, z_la, z_al, z_lm, z_ml, z_nm, nI_add, pk_mul, ↓reduceIte, not_true_eq_false, not_false_eq_true, true_or, or_true, false_or, or_false, true_and, and_true, and_false, false_and, Classical.not_not, Nat.add_zero, z_01, z_em, z_bit_p, Nat.not_le, Nat.not_lt, reduceCtorEq, if_true, if_false]
  · rw [l_jar1 X _ I T n j h3 hn hj]
    simp (disch := omega) only [e_X12_move_139, e_X12_move_139_4, k_X12_move_139_4, e_X12_move_139_7, k_X12_move_139_7, e_X12_move_139_8, e_X12_move_139_11, e_X12_move_139_19, k_X12_move_139_19, e_X12_move_139_22, k_X12_move_139_22, e_X12_move_139_38, k_X12_move_139_38, e_X12_move_139_39, k_X12_move_139_39, e_X12_move_139_44, k_X12_move_139_44, l_pla0 X _ u I T hu, q_bd_l, z_ltT, z_ltF, z_eqT, z_eqF, z_ltlT, z_ltlF, z_lltT, z_lltF, z_eqlT, z_eqlF, z_in, z_k7, z_cl, z_lneg, z_llT, z_llF, z_s1, z_nI_cl, z_nlt0, z_ne_m1, z_b0, z_b1, z_la, z_al, z_lm, z_ml, z_nm, nI_add, pk_mul, ↓reduceIte, not_true_eq_false, not_false_eq_true, true_or, or_true, false_or, or_false, true_and, and_true, and_false, false_and, Classical.not_not, Nat.add_zero, z_01, z_em, z_bit_p, Nat.not_le, Nat.not_lt, reduceCtorEq, if_true, if_false]
theorem l_years1 (X : Sx) (d : Nat) (I : Ii) (T : Tt) (n m a : Nat) (h : R_g n (I 140)) (ha : a ≤ 12) (h6 : I 139 6 = nI a) (h1 : 1 ≤ m) (hm : m ≤ 50) : ∃ K, c_X12_years_139 X (d + 38) (nI m) I T = z_r (R_pass n m (I 140) 9 - I 140 9) K T ∧ z_done I K a (R_pass n m (I 140)) := by
  obtain ⟨J, j1, j2⟩ := l_rem0 X (d + 36) I T a ha h6
  have e := j2.2.2.1
  obtain ⟨K, k1, k2, k3⟩ := l_passes X d J T n m (by omega) (by rw [e]; exact h)
  rw [e] at k1 k3
  refine ⟨K, ?_, z_done_m j2 (z_fr_m k2 (fun b k h => by simp [m_ry] at h; simp [h])) k3⟩
  rw [e_X12_years_139, l_isIn]
  simp (disch := omega) only [e_X12_years_139, e_X12_years_139_5, k_X12_years_139_5, e_X12_years_139_9, e_X12_years_139_17, k_X12_years_139_17, e_X12_years_139_20, k_X12_years_139_20, j1, k1, q_bd_l, z_ltT, z_ltF, z_eqT, z_eqF, z_ltlT, z_ltlF, z_lltT, z_lltF, z_eqlT, z_eqlF, z_in, z_k7, z_cl, z_lneg, z_llT, z_llF, z_s1, z_nI_cl, z_nlt0, z_ne_m1, z_b0, z_b1, z_la, z_al, z_lm, z_ml, z_nm, nI_add, pk_mul, ↓reduceIte, not_true_eq_false, not_false_eq_true, true_or, or_true, false_or, or_false, true_and, and_true, and_false, false_and, Classical.not_not, Nat.add_zero, z_01, z_em, z_bit_p, Nat.not_le, Nat.not_lt, reduceCtorEq, if_true, if_false]
theorem l_years0 (X : Sx) (d : Nat) (I : Ii) (T : Tt) (v : Int32) (hv : v < 1 ∨ 50 < v) : c_X12_years_139 X (d + 38) v I T = z_r 0 (q_w I 139 0 1) T := by
  have hin : (¬ v < 1 ∧ ¬ 50 < v) = False := eq_false (fun a => by rcases hv with h | h; exact a.1 h; exact a.2 h)
  rw [e_X12_years_139, l_isIn]
  simp (disch := omega) only [e_X12_years_139, e_X12_years_139_5, k_X12_years_139_5, e_X12_years_139_9, e_X12_years_139_17, k_X12_years_139_17, e_X12_years_139_20, k_X12_years_139_20, hin, q_bd_l, z_ltT, z_ltF, z_eqT, z_eqF, z_ltlT, z_ltlF, z_lltT, z_lltF, z_eqlT, z_eqlF, z_in, z_k7, z_cl, z_lneg, z_llT, z_llF, z_s1, z_nI_cl, z_nlt0, z_ne_m1, z_b0, z_b1, z_la, z_al, z_lm, z_ml, z_nm, nI_add, pk_mul, ↓reduceIte, not_true_eq_false, not_false_eq_true, true_or, or_true, false_or, or_false, true_and, and_true, and_false, false_and, Classical.not_not, Nat.add_zero, z_01, z_em, z_bit_p, Nat.not_le, Nat.not_lt, reduceCtorEq, if_true, if_false]
theorem l_undo0 (X : Sx) (d : Nat) (I : Ii) (T : Tt) (h6 : I 139 6 = 0) : c_X12_undo_139 X (d + 1) I T = z_r 0 (q_w I 139 0 0) T := by
  rw [e_X12_undo_139]
  simp (disch := omega) only [h6, q_bd_l, z_ltT, z_ltF, z_eqT, z_eqF, z_ltlT, z_ltlF, z_lltT, z_lltF, z_eqlT, z_eqlF, z_in, z_k7, z_cl, z_lneg, z_llT, z_llF, z_s1, z_nI_cl, z_nlt0, z_ne_m1, z_b0, z_b1, z_la, z_al, z_lm, z_ml, z_nm, nI_add, pk_mul, ↓reduceIte, not_true_eq_false, not_false_eq_true, true_or, or_true, false_or, or_false, true_and, and_true, and_false, false_and, Classical.not_not, Nat.add_zero, z_01, z_em, z_bit_p, Nat.not_le, Nat.not_lt, reduceCtorEq, if_true, if_false]
theorem l_undo1 (X : Sx) (d : Nat) (I : Ii) (T : Tt) (a : Nat) (ha : a < 12) (h6 : I 139 6 = nI (a + 1)) : ∃ K, c_X12_undo_139 X (d + 1) I T = z_r 1 K T ∧ K 139 6 = nI a ∧ K 139 0 = 0 ∧ z_fr (fun b k => b == 140 || (b == 139 && (k == 0 || k == 6))) I K ∧ (∀ k, k < 484 → K 140 k = I 143 (484 * a + k)) ∧ ∀ k, 484 ≤ k → K 140 k = I 140 k := by
  obtain ⟨K, ⟨p1, p2, p3⟩, p4⟩ := z_foldP (β := Unit) (σ := Ii) (fun k _ K => c_X12_undo_139_16 X d (nI k) K T) (fun _ u => u) (fun k _ K => z_fr (fun b _ => b == 140) (q_w (q_w I 139 0 0) 139 6 (nI a)) K ∧ (∀ i, i < k → K 140 i = I 143 (484 * a + i)) ∧ ∀ i, 484 ≤ i → K 140 i = I 140 i) 484 (by
    intro k _ K hk ⟨q1, q2, q3⟩
    have e6 : K 139 6 = nI a := (q1 139 6 rfl).trans (z_w_s _ _ _ _)
    have e3 : K 143 (484 * a + k) = I 143 (484 * a + k) := (q1 143 _ rfl).trans (by rw [z_w_a _ _ _ _ _ (by decide), z_w_a _ _ _ _ _ (by decide)])
    refine ⟨q_w K 140 k (I 143 (484 * a + k)), ⟨z_fr_w q1 140 _ _ rfl, fun i hi => ?_, fun i hi => ?_⟩, ?_⟩
    · by_cases e : i = k
      · subst e; exact z_w_s _ _ _ _
      · rw [z_w_k _ _ _ _ _ e]; exact q2 i (by omega)
    · rw [z_w_k _ _ _ _ _ (by omega)]; exact q3 i hi
    · rw [e_X12_undo_139_16]
      simp (disch := omega) only [e6, e3, q_bd_l, z_ltT, z_ltF, z_eqT, z_eqF, z_ltlT, z_ltlF, z_lltT, z_lltF, z_eqlT, z_eqlF, z_in, z_k7, z_cl, z_lneg, z_llT, z_llF, z_s1, z_nI_cl, z_nlt0, z_ne_m1, z_b0, z_b1, z_la, z_al, z_lm, z_ml, z_nm, nI_add, pk_mul, ↓reduceIte, not_true_eq_false, not_false_eq_true, true_or, or_true, false_or, or_false, true_and, and_true, and_false, false_and, Classical.not_not, Nat.add_zero, z_01, z_em, z_bit_p, Nat.not_le, Nat.not_lt, reduceCtorEq, if_true, if_false]) () (q_w (q_w I 139 0 0) 139 6 (nI a)) ⟨z_fr_r _ _, fun i hi => (by omega), fun i _ => by rw [z_w_a _ _ _ _ _ (by decide), z_w_a _ _ _ _ _ (by decide)]⟩
  refine ⟨K, ?_, (p1 139 6 rfl).trans (z_w_s _ _ _ _), (p1 139 0 rfl).trans (by rw [z_w_k _ _ _ _ _ (by decide), z_w_s]), z_fr_t (z_fr_w (z_fr_w (z_fr_r _ _) 139 0 _ rfl) 139 6 _ rfl) (z_fr_m p1 (fun b k h => by simp at h; simp [h])), p2, p3⟩
  rw [e_X12_undo_139]
  simp (disch := omega) only [h6, Nat.add_sub_cancel, q_bd_l, z_ltT, z_ltF, z_eqT, z_eqF, z_ltlT, z_ltlF, z_lltT, z_lltF, z_eqlT, z_eqlF, z_in, z_k7, z_cl, z_lneg, z_llT, z_llF, z_s1, z_nI_cl, z_nlt0, z_ne_m1, z_b0, z_b1, z_la, z_al, z_lm, z_ml, z_nm, nI_add, pk_mul, ↓reduceIte, not_true_eq_false, not_false_eq_true, true_or, or_true, false_or, or_false, true_and, and_true, and_false, false_and, Classical.not_not, Nat.add_zero, z_01, z_em, z_bit_p, Nat.not_le, Nat.not_lt, reduceCtorEq, if_true, if_false]
  refine p4.trans ?_
  rw [e_X12_undo_139_16]
  simp (disch := omega) only [q_bd_l, z_ltT, z_ltF, z_eqT, z_eqF, z_ltlT, z_ltlF, z_lltT, z_lltF, z_eqlT, z_eqlF, z_in, z_k7, z_cl, z_lneg, z_llT, z_llF, z_s1, z_nI_cl, z_nlt0, z_ne_m1, z_b0, z_b1, z_la, z_al, z_lm, z_ml, z_nm, nI_add, pk_mul, ↓reduceIte, not_true_eq_false, not_false_eq_true, true_or, or_true, false_or, or_false, true_and, and_true, and_false, false_and, Classical.not_not, Nat.add_zero, z_01, z_em, z_bit_p, Nat.not_le, Nat.not_lt, reduceCtorEq, if_true, if_false]
theorem l_image (X : Sx) (d : Nat) (I : Ii) (T : Tt) : ∃ K, c_X12_image_139 X (d + 1) I T = z_v K T ∧ K 139 3 = 1 ∧ z_fr (fun b k => b == 141 || (b == 139 && (k == 0 || k == 3))) I K ∧ ∀ k, k < 884 → K 141 k = I 140 k := by
  obtain ⟨K, ⟨p1, p2⟩, p4⟩ := z_foldP (β := Unit) (σ := Ii) (fun k _ K => c_X12_image_139_5 X d (nI k) K T) (fun _ u => u) (fun k _ K => z_fr (fun b _ => b == 141) (q_w I 139 0 0) K ∧ ∀ i, i < k → K 141 i = I 140 i) 884 (by
    intro k _ K hk ⟨q1, q2⟩
    have e3 : K 140 k = I 140 k := (q1 140 _ rfl).trans (by rw [z_w_a _ _ _ _ _ (by decide)])
    refine ⟨q_w K 141 k (I 140 k), ⟨z_fr_w q1 141 _ _ rfl, fun i hi => ?_⟩, ?_⟩
    · by_cases e : i = k
      · subst e; exact z_w_s _ _ _ _
      · rw [z_w_k _ _ _ _ _ e]; exact q2 i (by omega)
    · rw [e_X12_image_139_5]
      simp (disch := omega) only [e3, q_bd_l, z_ltT, z_ltF, z_eqT, z_eqF, z_ltlT, z_ltlF, z_lltT, z_lltF, z_eqlT, z_eqlF, z_in, z_k7, z_cl, z_lneg, z_llT, z_llF, z_s1, z_nI_cl, z_nlt0, z_ne_m1, z_b0, z_b1, z_la, z_al, z_lm, z_ml, z_nm, nI_add, pk_mul, ↓reduceIte, not_true_eq_false, not_false_eq_true, true_or, or_true, false_or, or_false, true_and, and_true, and_false, false_and, Classical.not_not, Nat.add_zero, z_01, z_em, z_bit_p, Nat.not_le, Nat.not_lt, reduceCtorEq, if_true, if_false]) () (q_w I 139 0 0) ⟨z_fr_r _ _, fun i hi => by omega⟩
  refine ⟨q_w K 139 3 1, ?_, z_w_s _ _ _ _, z_fr_w (z_fr_t (z_fr_w (z_fr_r _ _) 139 0 _ rfl) (z_fr_m p1 (fun b k h => by simp at h; simp [h]))) 139 3 _ rfl, fun k hk => by rw [z_w_a _ _ _ _ _ (by decide)]; exact p2 k hk⟩
  rw [e_X12_image_139]
  refine p4.trans ?_
  rw [e_X12_image_139_5]
  simp (disch := omega) only [q_bd_l, z_ltT, z_ltF, z_eqT, z_eqF, z_ltlT, z_ltlF, z_lltT, z_lltF, z_eqlT, z_eqlF, z_in, z_k7, z_cl, z_lneg, z_llT, z_llF, z_s1, z_nI_cl, z_nlt0, z_ne_m1, z_b0, z_b1, z_la, z_al, z_lm, z_ml, z_nm, nI_add, pk_mul, ↓reduceIte, not_true_eq_false, not_false_eq_true, true_or, or_true, false_or, or_false, true_and, and_true, and_false, false_and, Classical.not_not, Nat.add_zero, z_01, z_em, z_bit_p, Nat.not_le, Nat.not_lt, reduceCtorEq, if_true, if_false]
theorem l_back0 (X : Sx) (d : Nat) (I : Ii) (T : Tt) (h3 : I 139 3 = 0) : c_X12_back_139 X (d + 1) I T = z_r 0 (q_w I 139 0 0) T := by
  rw [e_X12_back_139]
  simp (disch := omega) only [h3, q_bd_l, z_ltT, z_ltF, z_eqT, z_eqF, z_ltlT, z_ltlF, z_lltT, z_lltF, z_eqlT, z_eqlF, z_in, z_k7, z_cl, z_lneg, z_llT, z_llF, z_s1, z_nI_cl, z_nlt0, z_ne_m1, z_b0, z_b1, z_la, z_al, z_lm, z_ml, z_nm, nI_add, pk_mul, ↓reduceIte, not_true_eq_false, not_false_eq_true, true_or, or_true, false_or, or_false, true_and, and_true, and_false, false_and, Classical.not_not, Nat.add_zero, z_01, z_em, z_bit_p, Nat.not_le, Nat.not_lt, reduceCtorEq, if_true, if_false]
theorem l_back1 (X : Sx) (d : Nat) (I : Ii) (T : Tt) (h3 : I 139 3 = 1) : ∃ K, c_X12_back_139 X (d + 1) I T = z_r 1 K T ∧ K 139 6 = 0 ∧ z_fr (fun b k => b == 140 || (b == 139 && (k == 0 || k == 6))) I K ∧ ∀ k, k < 884 → K 140 k = I 141 k := by
  obtain ⟨K, ⟨p1, p2⟩, p4⟩ := z_foldP (β := Unit) (σ := Ii) (fun k _ K => c_X12_back_139_10 X d (nI k) K T) (fun _ u => u) (fun k _ K => z_fr (fun b _ => b == 140) (q_w I 139 0 0) K ∧ ∀ i, i < k → K 140 i = I 141 i) 884 (by
    intro k _ K hk ⟨q1, q2⟩
    have e3 : K 141 k = I 141 k := (q1 141 _ rfl).trans (by rw [z_w_a _ _ _ _ _ (by decide)])
    refine ⟨q_w K 140 k (I 141 k), ⟨z_fr_w q1 140 _ _ rfl, fun i hi => ?_⟩, ?_⟩
    · by_cases e : i = k
      · subst e; exact z_w_s _ _ _ _
      · rw [z_w_k _ _ _ _ _ e]; exact q2 i (by omega)
    · rw [e_X12_back_139_10]
      simp (disch := omega) only [e3, q_bd_l, z_ltT, z_ltF, z_eqT, z_eqF, z_ltlT, z_ltlF, z_lltT, z_lltF, z_eqlT, z_eqlF, z_in, z_k7, z_cl, z_lneg, z_llT, z_llF, z_s1, z_nI_cl, z_nlt0, z_ne_m1, z_b0, z_b1, z_la, z_al, z_lm, z_ml, z_nm, nI_add, pk_mul, ↓reduceIte, not_true_eq_false, not_false_eq_true, true_or, or_true, false_or, or_false, true_and, and_true, and_false, false_and, Classical.not_not, Nat.add_zero, z_01, z_em, z_bit_p, Nat.not_le, Nat.not_lt, reduceCtorEq, if_true, if_false]) () (q_w I 139 0 0) ⟨z_fr_r _ _, fun i hi => by omega⟩
  refine ⟨q_w K 139 6 0, ?_, z_w_s _ _ _ _, z_fr_w (z_fr_t (z_fr_w (z_fr_r _ _) 139 0 _ rfl) (z_fr_m p1 (fun b k h => by simp at h; simp [h]))) 139 6 _ rfl, fun k hk => by rw [z_w_a _ _ _ _ _ (by decide)]; exact p2 k hk⟩
  rw [e_X12_back_139]
  simp (disch := omega) only [h3, q_bd_l, z_ltT, z_ltF, z_eqT, z_eqF, z_ltlT, z_ltlF, z_lltT, z_lltF, z_eqlT, z_eqlF, z_in, z_k7, z_cl, z_lneg, z_llT, z_llF, z_s1, z_nI_cl, z_nlt0, z_ne_m1, z_b0, z_b1, z_la, z_al, z_lm, z_ml, z_nm, nI_add, pk_mul, ↓reduceIte, not_true_eq_false, not_false_eq_true, true_or, or_true, false_or, or_false, true_and, and_true, and_false, false_and, Classical.not_not, Nat.add_zero, z_01, z_em, z_bit_p, Nat.not_le, Nat.not_lt, reduceCtorEq, if_true, if_false]
  refine p4.trans ?_
  rw [e_X12_back_139_10]
  simp (disch := omega) only [q_bd_l, z_ltT, z_ltF, z_eqT, z_eqF, z_ltlT, z_ltlF, z_lltT, z_lltF, z_eqlT, z_eqlF, z_in, z_k7, z_cl, z_lneg, z_llT, z_llF, z_s1, z_nI_cl, z_nlt0, z_ne_m1, z_b0, z_b1, z_la, z_al, z_lm, z_ml, z_nm, nI_add, pk_mul, ↓reduceIte, not_true_eq_false, not_false_eq_true, true_or, or_true, false_or, or_false, true_and, and_true, and_false, false_and, Classical.not_not, Nat.add_zero, z_01, z_em, z_bit_p, Nat.not_le, Nat.not_lt, reduceCtorEq, if_true, if_false]
