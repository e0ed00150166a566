/-! ===== THE REFERENCE: advice, years ===== -/
theorem z_foldP {β σ : Type} (F : Nat → β → σ → Rs) (s : Nat → β → β) (P : Nat → β → σ → Prop) (n : Nat) (h : ∀ k b J, k < n → P k b J → ∃ J', P (k + 1) (s k b) J' ∧ F k b J = F (k + 1) (s k b) J') (b : β) (J : σ) (h0 : P 0 b J) : ∃ J', P n (z_it s n b) J' ∧ F 0 b J = F n (z_it s n b) J' := by
  have key : ∀ k, k ≤ n → ∃ J', P k (z_it s k b) J' ∧ F 0 b J = F k (z_it s k b) J' := by
    intro k
    induction k with
    | zero => intro _; exact ⟨J, h0, rfl⟩
    | succ k ih =>
      intro hk
      obtain ⟨J1, h1, h2⟩ := ih (by omega)
      obtain ⟨J2, h3, h4⟩ := h k _ J1 (by omega) h1
      exact ⟨J2, h3, h2.trans h4⟩
  exact key n (Nat.le_refl n)
theorem z_fr_row {P : Nat → Nat → Bool} {I J : Ii} (h : z_fr P I J) (a : Nat) (ha : ∀ k, P a k = false) : J a = I a := funext (fun k => h a k (ha k))
theorem z_w_row (I : Ii) (a k : Nat) (v : Int32) : q_w I a k v a = va_up (I a) k v := by
  unfold q_w; simp [va_up]
theorem m_r_140 (k : Nat) : m_r 140 k = false := by simp [m_r]
def z_clamp (a : Int32) : Int32 := if (if 9 < a then 9 else a) < 0 then 0 else (if 9 < a then 9 else a)
/-- ADVICE -/
def R_adv (r : Nat → Int32) (j t : Nat) : Int32 := z_clamp (R_say r j (nI t) (r (12 + 13 * j + (7 + t)))).1
theorem l_asks (X : Sx) (d : Nat) (I : Ii) (T : Tt) (j t : Nat) (hj : j < 10) (ht : t < 6) (hL : R_lo (I 140)) : ∃ J, c_X12_asks_139 X (d + 33) (nI j) (nI t) I T = z_v J T ∧ z_fr m_r I J ∧ (J 139 18, J 139 19, J 139 20) = R_say (I 140) j (nI t) (I 140 (12 + 13 * j + (7 + t))) := by
  obtain ⟨J, h1, h2, h3⟩ := l_asks11 X d I T j hj (nI t) (nI t) (I 140 (12 + 13 * j + (7 + t))) (by rw [if_neg]; rw [z_ne_m1 t (by omega)]; exact not_false) hL
  refine ⟨J, ?_, h2, h3⟩
  rw [← h1, e_X12_asks_139]
  simp (disch := omega) only [k_X12_asks_139_11, l_ofn, q_bd_l, z_ltT, z_ltF, z_eqT, z_eqF, z_ltlT, z_ltlF, z_lltT, z_lltF, z_eqlT, z_eqlF, z_in, z_k7, z_cl, z_lneg, z_llT, z_llF, z_s1, z_nI_cl, z_nlt0, z_ne_m1, z_b0, z_b1, z_la, z_al, z_lm, z_ml, z_nm, nI_add, pk_mul, ↓reduceIte, not_true_eq_false, not_false_eq_true, true_or, or_true, false_or, or_false, true_and, and_true, and_false, false_and, Classical.not_not, Nat.add_zero, z_01, z_em, z_bit_p, Nat.not_le, Nat.not_lt, reduceCtorEq, if_true, if_false]
theorem l_asksN (X : Sx) (d : Nat) (I : Ii) (T : Tt) (j : Nat) (hj : j < 10) (hL : R_lo (I 140)) : ∃ J, c_X12_asks_139 X (d + 33) (nI j) (-1) I T = z_v J T ∧ z_fr m_r I J ∧ (J 139 18, J 139 19, J 139 20) = R_say (I 140) j 0 0 := by
  obtain ⟨J, h1, h2, h3⟩ := l_asks11 X d I T j hj (-1) 0 0 (by decide) hL
  refine ⟨J, ?_, h2, h3⟩
  rw [← h1, e_X12_asks_139]
  simp (disch := omega) only [q_bd_l, z_ltT, z_ltF, z_eqT, z_eqF, z_ltlT, z_ltlF, z_lltT, z_lltF, z_eqlT, z_eqlF, z_in, z_k7, z_cl, z_lneg, z_llT, z_llF, z_s1, z_nI_cl, z_nlt0, z_ne_m1, z_b0, z_b1, z_la, z_al, z_lm, z_ml, z_nm, nI_add, pk_mul, ↓reduceIte, not_true_eq_false, not_false_eq_true, true_or, or_true, false_or, or_false, true_and, and_true, and_false, false_and, Classical.not_not, Nat.add_zero, z_01, z_em, z_bit_p, Nat.not_le, Nat.not_lt, reduceCtorEq, if_true, if_false]
theorem l_adv (X : Sx) (d : Nat) (I : Ii) (T : Tt) (j t : Nat) (hj : j < 10) (ht : t < 6) (hL : R_lo (I 140)) : ∃ J, c_X12_adviceOf_139 X (d + 34) (nI j) (nI t) I T = z_r (R_adv (I 140) j t) J T ∧ z_fr m_r I J := by
  obtain ⟨J, h1, h2, h3⟩ := l_asks X d I T j t hj ht hL
  refine ⟨J, ?_, h2⟩
  have e : J 139 18 = (R_say (I 140) j (nI t) (I 140 (12 + 13 * j + (7 + t)))).1 := by rw [← h3]
  rw [e_X12_adviceOf_139, h1]
  simp (disch := omega) only [e_X12_adviceOf_139, e_X12_adviceOf_139_4, k_X12_adviceOf_139_4, e_X12_adviceOf_139_9, k_X12_adviceOf_139_9, e_X12_adviceOf_139_10, k_X12_adviceOf_139_10, l_lesser, l_greater, e, q_bd_l, z_ltT, z_ltF, z_eqT, z_eqF, z_ltlT, z_ltlF, z_lltT, z_lltF, z_eqlT, z_eqlF, z_in, z_k7, z_cl, z_lneg, z_llT, z_llF, z_s1, z_nI_cl, z_nlt0, z_ne_m1, z_b0, z_b1, z_la, z_al, z_lm, z_ml, z_nm, nI_add, pk_mul, ↓reduceIte, not_true_eq_false, not_false_eq_true, true_or, or_true, false_or, or_false, true_and, and_true, and_false, false_and, Classical.not_not, Nat.add_zero, z_01, z_em, z_bit_p, Nat.not_le, Nat.not_lt, reduceCtorEq, if_true, if_false]
  rfl
theorem r_text_up {r : Nat → Int32} {k : Nat} (hk : k < 484) (v : Int32) : r_text (va_up r k v) = r_text r := by
  funext i
  unfold r_text va_up
  rw [if_neg (by omega)]
theorem R_lo_up {r : Nat → Int32} (h : R_lo r) {k : Nat} (h3 : 3 ≤ k) (hk : k < 484) (v : Int32) : R_lo (va_up r k v) := by
  have e : ∀ i, i ≠ k → va_up r k v i = r i := fun i hi => by unfold va_up; rw [if_neg hi]
  unfold R_lo
  rw [r_text_up hk v, e 1 (by omega), e 2 (by omega)]
  rcases h with h | ⟨N, Ls, h1, h2, h3', h4⟩
  · exact .inl h
  · exact .inr ⟨N, Ls, h1, h2, fun i hi => by rw [e _ (by omega)]; exact h3' i hi, h4⟩
def z_sz (a : Int32) : Int32 := if a < 0 then -a else a
def z_99 (a : Int32) : Int32 := if 99 < a then 99 else a
/-- a jar beside one that pops -/
def R_sp (j : Nat) (o : Nat) (r : Nat → Int32) : Nat → Int32 := if z_sz (r (12 + 13 * o + 1) - r (12 + 13 * j + 1)) = 1 then va_up r (12 + 13 * o + 3) (z_99 (r (12 + 13 * o + 3) + 10)) else r
def R_pops (n j : Nat) (r : Nat → Int32) : Nat → Int32 := z_it (R_sp j) n (va_up (va_up r (12 + 13 * j + 2) 0) 9 (r 9 + 1))
/-- a jar in THE YEAR GOES ON -/
def R_sj (n j : Nat) (r : Nat → Int32) : Nat → Int32 := if (R_say r j 0 0).2.2 = 0 ∨ r (12 + 13 * j + 2) = 0 then va_up r (12 + 13 * j + 3) (z_99 (r (12 + 13 * j + 3) + (R_say r j 0 0).2.1)) else R_pops n j r
def R_sours (n : Nat) (r : Nat → Int32) : Nat → Int32 := z_it (R_sj n) n r
def m_ry (a k : Nat) : Bool := m_r a k || a == 140
theorem z_fr_ry {I J : Ii} (h : z_fr m_r I J) : z_fr m_ry I J := z_fr_m h (fun a k h => by simp [m_ry, h])
/-- a row in which jars' things have changed -/
def R_g (n : Nat) (r : Nat → Int32) : Prop := r 3 = nI n ∧ n ≤ 10 ∧ R_lo r
theorem R_g_up {n : Nat} {r : Nat → Int32} (h : R_g n r) {k : Nat} (h3 : 3 < k) (hk : k < 484) (v : Int32) : R_g n (va_up r k v) := by
  refine ⟨?_, h.2.1, R_lo_up h.2.2 (by omega) hk v⟩
  unfold va_up
  rw [if_neg (by omega)]; exact h.1
theorem R_sp_g {n j o : Nat} {r : Nat → Int32} (h : R_g n r) (ho : o < n) : R_g n (R_sp j o r) := by
  have := h.2.1
  unfold R_sp
  split
  · exact R_g_up h (by omega) (by omega) _
  · exact h
theorem z_it_P {α : Type} {s : Nat → α → α} {P : α → Prop} {n : Nat} {a : α} (h0 : P a) (hs : ∀ k a, k < n → P a → P (s k a)) : P (z_it s n a) := by
  have key : ∀ k, k ≤ n → P (z_it s k a) := by
    intro k
    induction k with
    | zero => intro _; exact h0
    | succ k ih => intro hk; exact hs k _ (by omega) (ih (by omega))
  exact key n (Nat.le_refl n)
theorem R_sj_g {n j : Nat} {r : Nat → Int32} (h : R_g n r) (hj : j < n) : R_g n (R_sj n j r) := by
  have := h.2.1
  unfold R_sj
  split
  · exact R_g_up h (by omega) (by omega) _
  · exact z_it_P (R_g_up (R_g_up h (by omega) (by omega) _) (by omega) (by omega) _) (fun k a hk ha => R_sp_g ha hk)
theorem R_sours_g {n : Nat} {r : Nat → Int32} (h : R_g n r) : R_g n (R_sours n r) := z_it_P h (fun k a hk ha => R_sj_g ha hk)
theorem l_sours (X : Sx) (d : Nat) (I : Ii) (T : Tt) (n : Nat) (h : R_g n (I 140)) : ∃ J, c_X12_sours_139 X (d + 35) I T = z_v J T ∧ z_fr m_ry I J ∧ J 140 = R_sours n (I 140) := by
  have h10 := h.2.1
  obtain ⟨⟨J, o⟩, ⟨p1, p2, p3⟩, p4⟩ := z_foldP (β := Nat → Int32) (σ := Ii × Option Value) (fun k r J => c_X12_sours_139_2 X (d + 34) (nI k) J.2 J.1 T) (fun j r => R_sj n j r) (fun k r J => J.1 140 = r ∧ z_fr m_ry I J.1 ∧ R_g n r) n (by
    intro k r J hk hP
    obtain ⟨J, o⟩ := J
    obtain ⟨q1, q2, q3⟩ := hP
    dsimp only at q1 q2 q3 ⊢
    subst q1
    obtain ⟨K, k1, k2, k3⟩ := l_asksN X (d + 1) J T k (by omega) q3.2.2
    have k140 : K 140 = J 140 := z_fr_row k2 140 m_r_140
    have e18 : K 139 18 = (R_say (J 140) k 0 0).1 := by rw [← k3]
    have e19 : K 139 19 = (R_say (J 140) k 0 0).2.1 := by rw [← k3]
    have e20 : K 139 20 = (R_say (J 140) k 0 0).2.2 := by rw [← k3]
    have f1 : z_fr m_ry I K := z_fr_t q2 (z_fr_ry k2)
    have hg := R_sj_g q3 hk
    rw [e_X12_sours_139_2]
    unfold R_sj at hg ⊢
    by_cases hp : (R_say (J 140) k 0 0).2.2 = 0 ∨ J 140 (12 + 13 * k + 2) = 0
    · rw [if_pos hp] at hg ⊢
      refine ⟨(q_w K 140 (12 + 13 * k + 3) (z_99 (J 140 (12 + 13 * k + 3) + (R_say (J 140) k 0 0).2.1)), o), ⟨by dsimp only; rw [z_w_row, k140], z_fr_w f1 140 _ _ (by simp [m_ry]), hg⟩, ?_⟩
      dsimp only
      unfold z_99
      by_cases hp2 : (R_say (J 140) k 0 0).2.2 = 0
      · simp (disch := omega) only [e_X12_sours_139_12, k_X12_sours_139_12, e_X12_sours_139_19, k_X12_sours_139_19, e_X12_sours_139_20, e_X12_sours_139_28, k_X12_sours_139_28, e_X12_sours_139_32, k_X12_sours_139_32, e_X12_sours_139_33, k_X12_sours_139_33, e_X12_sours_139_39, k_X12_sours_139_39, e_X12_sours_139_59, k_X12_sours_139_59, e_X12_sours_139_63, k_X12_sours_139_63, e_X12_sours_139_65, k_X12_sours_139_65, e_X12_sours_139_75, k_X12_sours_139_75, e_X12_sours_139_78, k_X12_sours_139_78, e_X12_sours_139_79, k_X12_sours_139_79, e_X12_sours_139_81, q3.1, k1, e19, e20, hp2, l_of, l_has, l_lesser, k140, q_bd_l, z_ltT, z_ltF, z_eqT, z_eqF, z_ltlT, z_ltlF, z_lltT, z_lltF, z_eqlT, z_eqlF, z_in, z_k7, z_cl, z_lneg, z_llT, z_llF, z_s1, z_nI_cl, z_nlt0, z_ne_m1, z_b0, z_b1, z_la, z_al, z_lm, z_ml, z_nm, nI_add, pk_mul, ↓reduceIte, not_true_eq_false, not_false_eq_true, true_or, or_true, false_or, or_false, true_and, and_true, and_false, false_and, Classical.not_not, Nat.add_zero, z_01, z_em, z_bit_p, Nat.not_le, Nat.not_lt, reduceCtorEq, if_true, if_false]
      · have hp3 : J 140 (12 + 13 * k + 2) = 0 := by rcases hp with h | h; exact absurd h hp2; exact h
        simp (disch := omega) only [e_X12_sours_139_12, k_X12_sours_139_12, e_X12_sours_139_19, k_X12_sours_139_19, e_X12_sours_139_20, e_X12_sours_139_28, k_X12_sours_139_28, e_X12_sours_139_32, k_X12_sours_139_32, e_X12_sours_139_33, k_X12_sours_139_33, e_X12_sours_139_39, k_X12_sours_139_39, e_X12_sours_139_59, k_X12_sours_139_59, e_X12_sours_139_63, k_X12_sours_139_63, e_X12_sours_139_65, k_X12_sours_139_65, e_X12_sours_139_75, k_X12_sours_139_75, e_X12_sours_139_78, k_X12_sours_139_78, e_X12_sours_139_79, k_X12_sours_139_79, e_X12_sours_139_81, q3.1, k1, e19, e20, hp2, hp3, l_of, l_has, l_lesser, k140, q_bd_l, z_ltT, z_ltF, z_eqT, z_eqF, z_ltlT, z_ltlF, z_lltT, z_lltF, z_eqlT, z_eqlF, z_in, z_k7, z_cl, z_lneg, z_llT, z_llF, z_s1, z_nI_cl, z_nlt0, z_ne_m1, z_b0, z_b1, z_la, z_al, z_lm, z_ml, z_nm, nI_add, pk_mul, ↓reduceIte, not_true_eq_false, not_false_eq_true, true_or, or_true, false_or, or_false, true_and, and_true, and_false, false_and, Classical.not_not, Nat.add_zero, z_01, z_em, z_bit_p, Nat.not_le, Nat.not_lt, reduceCtorEq, if_true, if_false]
    · rw [if_neg hp] at hg ⊢
      have hp2 : ¬ (R_say (J 140) k 0 0).2.2 = 0 := fun a => hp (.inl a)
      have hp3 : ¬ J 140 (12 + 13 * k + 2) = 0 := fun a => hp (.inr a)
      have hr0 : (q_w (q_w K 140 (12 + 13 * k + 2) 0) 140 9 (J 140 9 + 1)) 140 = va_up (va_up (J 140) (12 + 13 * k + 2) 0) 9 (J 140 9 + 1) := by rw [z_w_row, z_w_row, k140]
      have hr9 : (q_w K 140 (12 + 13 * k + 2) 0) 140 9 = J 140 9 := by rw [z_w_k _ _ _ _ _ (by omega), k140]
      obtain ⟨K2, ⟨t1, t2, t3⟩, t4⟩ := z_foldP (β := Nat → Int32) (σ := Ii) (fun i r L => c_X12_sours_139_49 X (d + 34) (nI k) (nI i) L T) (R_sp k) (fun i r L => L 140 = r ∧ z_fr m_ry I L ∧ R_g n r) n (by
        intro i r L hi hL
        obtain ⟨a1, a2, a3⟩ := hL
        subst a1
        have g3 := R_sp_g (j := k) a3 hi
        rw [e_X12_sours_139_49]
        unfold R_sp z_sz z_99 at g3 ⊢
        by_cases hz : (if L 140 (12 + 13 * i + 1) - L 140 (12 + 13 * k + 1) < 0 then -(L 140 (12 + 13 * i + 1) - L 140 (12 + 13 * k + 1)) else L 140 (12 + 13 * i + 1) - L 140 (12 + 13 * k + 1)) = 1
        · rw [if_pos hz] at g3 ⊢
          refine ⟨_, ⟨z_w_row L 140 (12 + 13 * i + 3) _, z_fr_w a2 140 _ _ (by simp [m_ry]), g3⟩, ?_⟩
          simp (disch := omega) only [e_X12_sours_139_12, k_X12_sours_139_12, e_X12_sours_139_19, k_X12_sours_139_19, e_X12_sours_139_20, e_X12_sours_139_28, k_X12_sours_139_28, e_X12_sours_139_32, k_X12_sours_139_32, e_X12_sours_139_33, k_X12_sours_139_33, e_X12_sours_139_39, k_X12_sours_139_39, e_X12_sours_139_59, k_X12_sours_139_59, e_X12_sours_139_63, k_X12_sours_139_63, e_X12_sours_139_65, k_X12_sours_139_65, e_X12_sours_139_75, k_X12_sours_139_75, e_X12_sours_139_78, k_X12_sours_139_78, e_X12_sours_139_79, k_X12_sours_139_79, e_X12_sours_139_81, a3.1, l_of, l_has, l_lesser, l_size, hz, q_bd_l, z_ltT, z_ltF, z_eqT, z_eqF, z_ltlT, z_ltlF, z_lltT, z_lltF, z_eqlT, z_eqlF, z_in, z_k7, z_cl, z_lneg, z_llT, z_llF, z_s1, z_nI_cl, z_nlt0, z_ne_m1, z_b0, z_b1, z_la, z_al, z_lm, z_ml, z_nm, nI_add, pk_mul, ↓reduceIte, not_true_eq_false, not_false_eq_true, true_or, or_true, false_or, or_false, true_and, and_true, and_false, false_and, Classical.not_not, Nat.add_zero, z_01, z_em, z_bit_p, Nat.not_le, Nat.not_lt, reduceCtorEq, if_true, if_false]
        · rw [if_neg hz] at g3 ⊢
          refine ⟨L, ⟨rfl, a2, g3⟩, ?_⟩
          simp (disch := omega) only [e_X12_sours_139_12, k_X12_sours_139_12, e_X12_sours_139_19, k_X12_sours_139_19, e_X12_sours_139_20, e_X12_sours_139_28, k_X12_sours_139_28, e_X12_sours_139_32, k_X12_sours_139_32, e_X12_sours_139_33, k_X12_sours_139_33, e_X12_sours_139_39, k_X12_sours_139_39, e_X12_sours_139_59, k_X12_sours_139_59, e_X12_sours_139_63, k_X12_sours_139_63, e_X12_sours_139_65, k_X12_sours_139_65, e_X12_sours_139_75, k_X12_sours_139_75, e_X12_sours_139_78, k_X12_sours_139_78, e_X12_sours_139_79, k_X12_sours_139_79, e_X12_sours_139_81, a3.1, l_of, l_has, l_lesser, l_size, hz, q_bd_l, z_ltT, z_ltF, z_eqT, z_eqF, z_ltlT, z_ltlF, z_lltT, z_lltF, z_eqlT, z_eqlF, z_in, z_k7, z_cl, z_lneg, z_llT, z_llF, z_s1, z_nI_cl, z_nlt0, z_ne_m1, z_b0, z_b1, z_la, z_al, z_lm, z_ml, z_nm, nI_add, pk_mul, ↓reduceIte, not_true_eq_false, not_false_eq_true, true_or, or_true, false_or, or_false, true_and, and_true, and_false, false_and, Classical.not_not, Nat.add_zero, z_01, z_em, z_bit_p, Nat.not_le, Nat.not_lt, reduceCtorEq, if_true, if_false]) _ (q_w (q_w K 140 (12 + 13 * k + 2) 0) 140 9 (J 140 9 + 1)) ⟨hr0, z_fr_w (z_fr_w f1 140 _ _ (by simp [m_ry])) 140 _ _ (by simp [m_ry]), R_g_up (R_g_up q3 (by omega) (by omega) _) (by omega) (by omega) _⟩
      refine ⟨(K2, some (.int (nI n))), ⟨t1, t2, hg⟩, ?_⟩
      dsimp only
      have t3' := t3.1
      have n3 : K2 140 3 = nI n := by rw [t1]; exact t3.1
      have e49 : c_X12_sours_139_49 X (d + 34) (nI k) (nI n) K2 T = c_X12_sours_139_2 X (d + 34) (nI (k + 1)) (some (.int (nI n))) K2 T := by
        rw [e_X12_sours_139_49]
        simp (disch := omega) only [e_X12_sours_139_12, k_X12_sours_139_12, e_X12_sours_139_19, k_X12_sours_139_19, e_X12_sours_139_20, e_X12_sours_139_28, k_X12_sours_139_28, e_X12_sours_139_32, k_X12_sours_139_32, e_X12_sours_139_33, k_X12_sours_139_33, e_X12_sours_139_39, k_X12_sours_139_39, e_X12_sours_139_59, k_X12_sours_139_59, e_X12_sours_139_63, k_X12_sours_139_63, e_X12_sours_139_65, k_X12_sours_139_65, e_X12_sours_139_75, k_X12_sours_139_75, e_X12_sours_139_78, k_X12_sours_139_78, e_X12_sours_139_79, k_X12_sours_139_79, e_X12_sours_139_81, n3, q_bd_l, z_ltT, z_ltF, z_eqT, z_eqF, z_ltlT, z_ltlF, z_lltT, z_lltF, z_eqlT, z_eqlF, z_in, z_k7, z_cl, z_lneg, z_llT, z_llF, z_s1, z_nI_cl, z_nlt0, z_ne_m1, z_b0, z_b1, z_la, z_al, z_lm, z_ml, z_nm, nI_add, pk_mul, ↓reduceIte, not_true_eq_false, not_false_eq_true, true_or, or_true, false_or, or_false, true_and, and_true, and_false, false_and, Classical.not_not, Nat.add_zero, z_01, z_em, z_bit_p, Nat.not_le, Nat.not_lt, reduceCtorEq, if_true, if_false]
      have z0 : (0 : Int32) = nI 0 := rfl
      simp (disch := omega) only [e_X12_sours_139_12, k_X12_sours_139_12, e_X12_sours_139_19, k_X12_sours_139_19, e_X12_sours_139_20, e_X12_sours_139_28, k_X12_sours_139_28, e_X12_sours_139_32, k_X12_sours_139_32, e_X12_sours_139_33, k_X12_sours_139_33, e_X12_sours_139_39, k_X12_sours_139_39, e_X12_sours_139_59, k_X12_sours_139_59, e_X12_sours_139_63, k_X12_sours_139_63, e_X12_sours_139_65, k_X12_sours_139_65, e_X12_sours_139_75, k_X12_sours_139_75, e_X12_sours_139_78, k_X12_sours_139_78, e_X12_sours_139_79, k_X12_sours_139_79, e_X12_sours_139_81, q3.1, k1, e19, e20, hp2, hp3, l_of, l_has, k140, hr9, q_bd_l, z_ltT, z_ltF, z_eqT, z_eqF, z_ltlT, z_ltlF, z_lltT, z_lltF, z_eqlT, z_eqlF, z_in, z_k7, z_cl, z_lneg, z_llT, z_llF, z_s1, z_nI_cl, z_nlt0, z_ne_m1, z_b0, z_b1, z_la, z_al, z_lm, z_ml, z_nm, nI_add, pk_mul, ↓reduceIte, not_true_eq_false, not_false_eq_true, true_or, or_true, false_or, or_false, true_and, and_true, and_false, false_and, Classical.not_not, Nat.add_zero, z_01, z_em, z_bit_p, Nat.not_le, Nat.not_lt, reduceCtorEq, if_true, if_false]
      rw [← e49]
      exact t4) (I 140) (I, none) ⟨rfl, z_fr_r _ _, h⟩
  dsimp only at p1 p2 p3 p4
  refine ⟨J, ?_, p2, p1⟩
  rw [e_X12_sours_139]
  refine p4.trans ?_
  have n3 : J 140 3 = nI n := by rw [p1]; exact p3.1
  rw [e_X12_sours_139_2]
  simp (disch := omega) only [n3, q_bd_l, z_ltT, z_ltF, z_eqT, z_eqF, z_ltlT, z_ltlF, z_lltT, z_lltF, z_eqlT, z_eqlF, z_in, z_k7, z_cl, z_lneg, z_llT, z_llF, z_s1, z_nI_cl, z_nlt0, z_ne_m1, z_b0, z_b1, z_la, z_al, z_lm, z_ml, z_nm, nI_add, pk_mul, ↓reduceIte, not_true_eq_false, not_false_eq_true, true_or, or_true, false_or, or_false, true_and, and_true, and_false, false_and, Classical.not_not, Nat.add_zero, z_01, z_em, z_bit_p, Nat.not_le, Nat.not_lt, reduceCtorEq, if_true, if_false]
