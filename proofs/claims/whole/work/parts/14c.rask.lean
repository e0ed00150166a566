/-! ===== THE REFERENCE: questions of advice ===== -/
theorem m_ry_k {a : Nat} (h1 : a ≠ 139) (h2 : a ≠ 140) (h3 : a ≠ 145) (k : Nat) : m_ry a k = false := by simp [m_ry, m_r, h1, h2, h3]
theorem l_aside (X : Sx) (d : Nat) (I : Ii) (T : Tt) : ∃ J, c_X12_putsAside_139 X (d + 1) I T = z_v J T ∧ z_fr (fun a _ => a == 142) I J ∧ ∀ k, k < 484 → J 142 k = I 140 k := by
  obtain ⟨J, ⟨p1, p2⟩, p4⟩ := z_foldP (β := Unit) (σ := Ii) (fun k _ J => c_X12_putsAside_139_2 X d (nI k) J T) (fun _ r => r) (fun k _ J => z_fr (fun a _ => a == 142) I J ∧ ∀ i, i < k → J 142 i = I 140 i) 484 (by
    intro k _ J hk ⟨q1, q2⟩
    refine ⟨q_w J 142 k (J 140 k), ⟨z_fr_w q1 142 k _ rfl, fun i hi => ?_⟩, ?_⟩
    · by_cases e : i = k
      · subst e; rw [z_w_s, q1 140 i rfl]
      · rw [z_w_k _ _ _ _ _ e]; exact q2 i (by omega)
    · rw [e_X12_putsAside_139_2]
      simp (disch := omega) only [q_bd_l, z_ltT, z_ltF, z_eqT, z_eqF, z_ltlT, z_ltlF, z_lltT, z_lltF, z_eqlT, z_eqlF, z_in, z_k7, z_cl, z_lneg, z_llT, z_llF, z_s1, z_nI_cl, z_nlt0, z_ne_m1, z_b0, z_b1, z_la, z_al, z_lm, z_ml, z_nm, nI_add, pk_mul, ↓reduceIte, not_true_eq_false, not_false_eq_true, true_or, or_true, false_or, or_false, true_and, and_true, and_false, false_and, Classical.not_not, Nat.add_zero, z_01, z_em, z_bit_p, Nat.not_le, Nat.not_lt, reduceCtorEq, if_true, if_false]) () I ⟨z_fr_r _ _, fun i hi => by omega⟩
  refine ⟨J, ?_, p1, p2⟩
  rw [e_X12_putsAside_139]
  refine p4.trans ?_
  rw [e_X12_putsAside_139_2]
  simp (disch := omega) only [q_bd_l, z_ltT, z_ltF, z_eqT, z_eqF, z_ltlT, z_ltlF, z_lltT, z_lltF, z_eqlT, z_eqlF, z_in, z_k7, z_cl, z_lneg, z_llT, z_llF, z_s1, z_nI_cl, z_nlt0, z_ne_m1, z_b0, z_b1, z_la, z_al, z_lm, z_ml, z_nm, nI_add, pk_mul, ↓reduceIte, not_true_eq_false, not_false_eq_true, true_or, or_true, false_or, or_false, true_and, and_true, and_false, false_and, Classical.not_not, Nat.add_zero, z_01, z_em, z_bit_p, Nat.not_le, Nat.not_lt, reduceCtorEq, if_true, if_false]
theorem l_back (X : Sx) (d : Nat) (I : Ii) (T : Tt) : ∃ J, c_X12_comesBack_139 X (d + 1) I T = z_v J T ∧ z_fr (fun a _ => a == 140) I J ∧ (∀ k, k < 484 → J 140 k = I 142 k) ∧ ∀ k, 484 ≤ k → J 140 k = I 140 k := by
  obtain ⟨J, ⟨p1, p2, p3⟩, p4⟩ := z_foldP (β := Unit) (σ := Ii) (fun k _ J => c_X12_comesBack_139_2 X d (nI k) J T) (fun _ r => r) (fun k _ J => z_fr (fun a _ => a == 140) I J ∧ (∀ i, i < k → J 140 i = I 142 i) ∧ ∀ i, 484 ≤ i → J 140 i = I 140 i) 484 (by
    intro k _ J hk ⟨q1, q2, q3⟩
    refine ⟨q_w J 140 k (J 142 k), ⟨z_fr_w q1 140 k _ rfl, fun i hi => ?_, fun i hi => ?_⟩, ?_⟩
    · by_cases e : i = k
      · subst e; rw [z_w_s, q1 142 i rfl]
      · rw [z_w_k _ _ _ _ _ e]; exact q2 i (by omega)
    · rw [z_w_k _ _ _ _ _ (by omega)]; exact q3 i hi
    · rw [e_X12_comesBack_139_2]
      simp (disch := omega) only [q_bd_l, z_ltT, z_ltF, z_eqT, z_eqF, z_ltlT, z_ltlF, z_lltT, z_lltF, z_eqlT, z_eqlF, z_in, z_k7, z_cl, z_lneg, z_llT, z_llF, z_s1, z_nI_cl, z_nlt0, z_ne_m1, z_b0, z_b1, z_la, z_al, z_lm, z_ml, z_nm, nI_add, pk_mul, ↓reduceIte, not_true_eq_false, not_false_eq_true, true_or, or_true, false_or, or_false, true_and, and_true, and_false, false_and, Classical.not_not, Nat.add_zero, z_01, z_em, z_bit_p, Nat.not_le, Nat.not_lt, reduceCtorEq, if_true, if_false]) () I ⟨z_fr_r _ _, fun i hi => (by omega), fun i _ => rfl⟩
  refine ⟨J, ?_, p1, p2, p3⟩
  rw [e_X12_comesBack_139]
  refine p4.trans ?_
  rw [e_X12_comesBack_139_2]
  simp (disch := omega) only [q_bd_l, z_ltT, z_ltF, z_eqT, z_eqF, z_ltlT, z_ltlF, z_lltT, z_lltF, z_eqlT, z_eqlF, z_in, z_k7, z_cl, z_lneg, z_llT, z_llF, z_s1, z_nI_cl, z_nlt0, z_ne_m1, z_b0, z_b1, z_la, z_al, z_lm, z_ml, z_nm, nI_add, pk_mul, ↓reduceIte, not_true_eq_false, not_false_eq_true, true_or, or_true, false_or, or_false, true_and, and_true, and_false, false_and, Classical.not_not, Nat.add_zero, z_01, z_em, z_bit_p, Nat.not_le, Nat.not_lt, reduceCtorEq, if_true, if_false]
-- above the log nothing changes
def R_hi (r s : Nat → Int32) : Prop := ∀ k, 484 ≤ k → s k = r k
theorem R_hi_r (r : Nat → Int32) : R_hi r r := fun _ _ => rfl
theorem R_hi_up {r s : Nat → Int32} (h : R_hi r s) {i : Nat} (hi : i < 484) (v : Int32) : R_hi r (va_up s i v) := by
  intro k hk
  unfold va_up
  rw [if_neg (by omega)]; exact h k hk
theorem R_hi_sj {n j : Nat} {r s : Nat → Int32} (hn : n ≤ 10) (hj : j < n) (h : R_hi r s) : R_hi r (R_sj n j s) := by
  unfold R_sj
  split
  · exact R_hi_up h (by omega) _
  · refine z_it_P (P := R_hi r) (R_hi_up (R_hi_up h (by omega) _) (by omega) _) (fun k a hk ha => ?_)
    unfold R_sp
    split
    · exact R_hi_up ha (by omega) _
    · exact ha
theorem R_hi_sours {n : Nat} {r s : Nat → Int32} (hn : n ≤ 10) (h : R_hi r s) : R_hi r (R_sours n s) := z_it_P (P := R_hi r) h (fun k a hk ha => R_hi_sj hn hk ha)
theorem R_hi_ah {n : Nat} {r s : Nat → Int32} (hn : n ≤ 10) (h : R_hi r s) : R_hi r (R_ah n s) := R_hi_up (R_hi_sours hn h) (by omega) _
theorem R_hi_year {n : Nat} {r s : Nat → Int32} (hn : n ≤ 10) (h : R_hi r s) : R_hi r (R_year n s) := by
  refine R_hi_up ?_ (by omega) _
  have h1 := R_hi_sours hn h
  have h2 : R_hi r (R_peel n (R_sours n s)) := by
    unfold R_peel R_sd
    split
    · rename_i h2
      have : r_dn (R_sd (R_sd (R_sours n s)) 11) % n < n := Nat.mod_lt _ h2.2
      exact R_hi_up (R_hi_up (R_hi_up h1 (by omega) _) (by omega) _) (by unfold R_sd at this; omega) _
    · exact R_hi_up h1 (by omega) _
  unfold R_wasp R_sd
  split
  · rename_i h3
    have : R_wj n (R_peel n (R_sours n s)) < n := Nat.mod_lt _ h3.2
    split
    · exact R_hi_up (R_hi_up (R_hi_up h2 (by omega) _) (by omega) _) (by omega) _
    · exact R_hi_up (R_hi_up h2 (by omega) _) (by omega) _
  · exact R_hi_up h2 (by omega) _
theorem R_hi_pass {n m : Nat} {r s : Nat → Int32} (hn : n ≤ 10) (h : R_hi r s) : R_hi r (R_pass n m s) := z_it_P (P := R_hi r) h (fun k a _ ha => R_hi_year hn ha)
/-- the reference's own things that questions may change -/
def m_q (a k : Nat) : Bool := m_r a k || (a == 139 && k == 0) || a == 142 || a == 146 || a == 147 || a == 148 || a == 149
theorem z_fr_q {I J : Ii} (h : z_fr m_r I J) : z_fr m_q I J := z_fr_m h (fun a k h => by simp [m_q, h])
theorem z_q0 (I : Ii) (v : Int32) : z_fr m_q I (q_w I 139 0 v) := z_fr_w (z_fr_r _ _) 139 0 v rfl
theorem m_q_140 (k : Nat) : m_q 140 k = false := by simp [m_q, m_r]
theorem z_q140 {I J : Ii} (h : z_fr m_q I J) : J 140 = I 140 := z_fr_row h 140 m_q_140
theorem z_r140 {I J : Ii} (h : z_fr m_r I J) : J 140 = I 140 := z_fr_row h 140 m_r_140
/-- set aside, years ahead, back again -/
theorem z_back {I J K L : Ii} (h1 : z_fr (fun a _ => a == 142) I J) (h2 : ∀ k, k < 484 → J 142 k = I 140 k) (h3 : z_fr m_ry J K) (h4 : R_hi (J 140) (K 140)) (h5 : z_fr (fun a _ => a == 140) K L) (h6 : ∀ k, k < 484 → L 140 k = K 142 k) (h7 : ∀ k, 484 ≤ k → L 140 k = K 140 k) : z_fr m_q I L := by
  intro a k hm
  by_cases e : a = 140
  · subst e
    rcases Nat.lt_or_ge k 484 with hk | hk
    · rw [h6 k hk, h3 142 k (by simp [m_ry, m_r]), h2 k hk]
    · rw [h7 k hk, h4 k hk, h1 140 k rfl]
  · have h8 : L a k = K a k := h5 a k (by simpa using e)
    have h9 : m_ry a k = false := by
      simp [m_q] at hm
      simp [m_ry, hm, e]
    have h10 : (a == 142) = false := by
      simp [m_q] at hm
      simp [hm]
    rw [h8, h3 a k h9, h1 a k h10]
theorem l_clash (X : Sx) (d : Nat) (I : Ii) (T : Tt) (a b t : Nat) (ha : a < 10) (hb : b < 10) (ht : t < 6) (hL : R_lo (I 140)) : ∃ J, c_X12_clash_139 X (d + 35) (nI a) (nI b) (nI t) I T = z_r (z_b (¬ z_sz (R_adv (I 140) a t - R_adv (I 140) b t) < 5)) J T ∧ z_fr m_r I J := by
  obtain ⟨J, h1, h2⟩ := l_adv X d I T a t ha ht hL
  have e := z_r140 h2
  obtain ⟨K, k1, k2⟩ := l_adv X d J T b t hb ht (by rw [e]; exact hL)
  refine ⟨K, ?_, z_fr_t h2 k2⟩
  rw [e] at k1
  rw [e_X12_clash_139, h1]
  unfold z_b z_sz
  by_cases hc : (if R_adv (I 140) a t - R_adv (I 140) b t < 0 then -(R_adv (I 140) a t - R_adv (I 140) b t) else R_adv (I 140) a t - R_adv (I 140) b t) < 5 <;> simp (disch := omega) only [e_X12_clash_139, e_X12_clash_139_4, k_X12_clash_139_4, e_X12_clash_139_8, k_X12_clash_139_8, e_X12_clash_139_10, k_X12_clash_139_10, k1, l_size, hc, q_bd_l, z_ltT, z_ltF, z_eqT, z_eqF, z_ltlT, z_ltlF, z_lltT, z_lltF, z_eqlT, z_eqlF, z_in, z_k7, z_cl, z_lneg, z_llT, z_llF, z_s1, z_nI_cl, z_nlt0, z_ne_m1, z_b0, z_b1, z_la, z_al, z_lm, z_ml, z_nm, nI_add, pk_mul, ↓reduceIte, not_true_eq_false, not_false_eq_true, true_or, or_true, false_or, or_false, true_and, and_true, and_false, false_and, Classical.not_not, Nat.add_zero, z_01, z_em, z_bit_p, Nat.not_le, Nat.not_lt, reduceCtorEq, if_true, if_false]
/-- some of the first n -/
def z_any (p : Nat → Bool) (n : Nat) : Bool := z_it (fun k b => b || p k) n false
def z_all (p : Nat → Bool) (n : Nat) : Bool := z_it (fun k b => b && p k) n true
theorem z_any_p (p : Nat → Bool) (n : Nat) : (z_any p n = true) = ∃ k, k < n ∧ p k = true := by
  induction n with
  | zero => simp [z_any, z_it]
  | succ n ih =>
    have e : z_any p (n + 1) = (z_any p n || p n) := rfl
    rw [e, Bool.or_eq_true, ih]
    refine propext ⟨fun h => ?_, fun h => ?_⟩
    · rcases h with ⟨k, h1, h2⟩ | h
      · exact ⟨k, by omega, h2⟩
      · exact ⟨n, by omega, h⟩
    · obtain ⟨k, h1, h2⟩ := h
      by_cases e : k = n
      · subst e; exact .inr h2
      · exact .inl ⟨k, by omega, h2⟩
theorem z_all_p (p : Nat → Bool) (n : Nat) : (z_all p n = true) = ∀ k, k < n → p k = true := by
  induction n with
  | zero => simp [z_all, z_it]
  | succ n ih =>
    have e : z_all p (n + 1) = (z_all p n && p n) := rfl
    rw [e, Bool.and_eq_true, ih]
    refine propext ⟨fun h k hk => ?_, fun h => ⟨fun k hk => h k (by omega), h n (by omega)⟩⟩
    by_cases e : k = n
    · subst e; exact h.2
    · exact h.1 k (by omega)
theorem z_any_c {p q : Nat → Bool} {n : Nat} (h : ∀ k, k < n → p k = q k) : z_any p n = z_any q n := z_it_c (fun k a hk => by rw [h k hk])
theorem z_all_c {p q : Nat → Bool} {n : Nat} (h : ∀ k, k < n → p k = q k) : z_all p n = z_all q n := z_it_c (fun k a hk => by rw [h k hk])
/-- a set of those of n for which p holds -/
def z_set (p : Nat → Bool) (n : Nat) : Int32 := z_it (fun k a => a ||| (if p k = true then (1 : Int32) <<< (nI k &&& 31) else 0)) n 0
theorem z_set_c {p q : Nat → Bool} {n : Nat} (h : ∀ k, k < n → p k = q k) : z_set p n = z_set q n := z_it_c (fun k a hk => by rw [h k hk])
theorem z_or_any (p : Nat → Bool) (m a : Int32) (n : Nat) : z_it (fun k a => a ||| (if p k = true then m else 0)) n a = a ||| (if z_any p n = true then m else 0) := by
  induction n with
  | zero => simp [z_it, z_any]
  | succ n ih =>
    show (z_it (fun k a => a ||| (if p k = true then m else 0)) n a) ||| (if p n = true then m else 0) = _
    rw [ih]
    have e : z_any p (n + 1) = (z_any p n || p n) := rfl
    rw [e]
    cases z_any p n <;> cases p n <;> simp [Int32.or_assoc]
/-- two jars CLASH of some MATTER -/
def R_dc (r : Nat → Int32) (j o : Nat) : Bool := z_any (fun t => decide (¬ z_sz (R_adv r j t - R_adv r o t) < 5)) 6
def R_cl (r : Nat → Int32) (n j : Nat) : Int32 := z_set (fun o => decide (o ≠ j) && R_dc r j o) n
theorem l_clashes (X : Sx) (d : Nat) (I : Ii) (T : Tt) (n j : Nat) (hj : j < n) (h : R_g n (I 140)) : ∃ J, c_X12_clashes_139 X (d + 36) (nI j) I T = z_r (R_cl (I 140) n j) J T ∧ z_fr m_r I J := by
  have h10 := h.2.1
  obtain ⟨⟨J, o⟩, p1, p4⟩ := z_foldP (β := Int32) (σ := Ii × Option Value) (fun k a J => c_X12_clashes_139_4 X (d + 35) (nI j) a (nI k) J.2 J.1 T) (fun o a => a ||| (if (decide (o ≠ j) && R_dc (I 140) j o) = true then (1 : Int32) <<< (nI o &&& 31) else 0)) (fun k a J => z_fr m_r I J.1) n (by
    intro k a J hk hP
    obtain ⟨J, o⟩ := J
    dsimp only at hP ⊢
    have e := z_r140 hP
    obtain ⟨K, q1, q4⟩ := z_foldP (β := Int32) (σ := Ii) (fun t a K => c_X12_clashes_139_12 X (d + 35) (nI j) a (nI k) (nI t) K T) (fun t a => a ||| (if (decide (k ≠ j) && decide (¬ z_sz (R_adv (I 140) j t - R_adv (I 140) k t) < 5)) = true then (1 : Int32) <<< (nI k &&& 31) else 0)) (fun t a K => z_fr m_r I K) 6 (by
      intro t a K ht hK
      have eK := z_r140 hK
      rw [e_X12_clashes_139_12]
      by_cases ej : k = j
      · subst ej
        refine ⟨K, hK, ?_⟩
        have e0 : (decide (k ≠ k) && decide (¬ z_sz (R_adv (I 140) k t - R_adv (I 140) k t) < 5)) = false := by simp
        simp (disch := omega) only [e_X12_clashes_139_24, k_X12_clashes_139_24, e_X12_clashes_139_29, e_X12_clashes_139_30, e0, Bool.false_eq_true, q_bd_l, z_ltT, z_ltF, z_eqT, z_eqF, z_ltlT, z_ltlF, z_lltT, z_lltF, z_eqlT, z_eqlF, z_in, z_k7, z_cl, z_lneg, z_llT, z_llF, z_s1, z_nI_cl, z_nlt0, z_ne_m1, z_b0, z_b1, z_la, z_al, z_lm, z_ml, z_nm, nI_add, pk_mul, ↓reduceIte, not_true_eq_false, not_false_eq_true, true_or, or_true, false_or, or_false, true_and, and_true, and_false, false_and, Classical.not_not, Nat.add_zero, z_01, z_em, z_bit_p, Nat.not_le, Nat.not_lt, reduceCtorEq, if_true, if_false]
      · obtain ⟨K2, c1, c2⟩ := l_clash X d K T j k t (by omega) (by omega) ht (by rw [eK]; exact h.2.2)
        rw [eK] at c1
        refine ⟨K2, z_fr_t hK c2, ?_⟩
        by_cases hc : z_sz (R_adv (I 140) j t - R_adv (I 140) k t) < 5
        · have e0 : (decide (k ≠ j) && decide (¬ z_sz (R_adv (I 140) j t - R_adv (I 140) k t) < 5)) = false := by simp [hc]
          simp (disch := omega) only [e_X12_clashes_139_24, k_X12_clashes_139_24, e_X12_clashes_139_29, e_X12_clashes_139_30, c1, hc, ej, q_bd_l, z_ltT, z_ltF, z_eqT, z_eqF, z_ltlT, z_ltlF, z_lltT, z_lltF, z_eqlT, z_eqlF, z_in, z_k7, z_cl, z_lneg, z_llT, z_llF, z_s1, z_nI_cl, z_nlt0, z_ne_m1, z_b0, z_b1, z_la, z_al, z_lm, z_ml, z_nm, nI_add, pk_mul, ↓reduceIte, not_true_eq_false, not_false_eq_true, true_or, or_true, false_or, or_false, true_and, and_true, and_false, false_and, Classical.not_not, Nat.add_zero, z_01, z_em, z_bit_p, Nat.not_le, Nat.not_lt, reduceCtorEq, if_true, if_false, decide_true, decide_false, Bool.and_true, Bool.and_false, Bool.true_and, Bool.false_and, Bool.or_true, Bool.or_false, Bool.true_or, Bool.false_or, Bool.false_eq_true, ne_eq, Bool.not_true, Bool.not_false, decide_not]
        · have e0 : (decide (k ≠ j) && decide (¬ z_sz (R_adv (I 140) j t - R_adv (I 140) k t) < 5)) = true := by simp [hc, ej]
          simp (disch := omega) only [e_X12_clashes_139_24, k_X12_clashes_139_24, e_X12_clashes_139_29, e_X12_clashes_139_30, c1, hc, ej, q_bd_l, z_ltT, z_ltF, z_eqT, z_eqF, z_ltlT, z_ltlF, z_lltT, z_lltF, z_eqlT, z_eqlF, z_in, z_k7, z_cl, z_lneg, z_llT, z_llF, z_s1, z_nI_cl, z_nlt0, z_ne_m1, z_b0, z_b1, z_la, z_al, z_lm, z_ml, z_nm, nI_add, pk_mul, ↓reduceIte, not_true_eq_false, not_false_eq_true, true_or, or_true, false_or, or_false, true_and, and_true, and_false, false_and, Classical.not_not, Nat.add_zero, z_01, z_em, z_bit_p, Nat.not_le, Nat.not_lt, reduceCtorEq, if_true, if_false, decide_true, decide_false, Bool.and_true, Bool.and_false, Bool.true_and, Bool.false_and, Bool.or_true, Bool.or_false, Bool.true_or, Bool.false_or, Bool.false_eq_true, ne_eq, Bool.not_true, Bool.not_false, decide_not]) a J hP
    refine ⟨(K, some (.int (nI 6))), q1, ?_⟩
    dsimp only
    rw [e_X12_clashes_139_4]
    have n3 : J 140 3 = nI n := by rw [e]; exact h.1
    have go : c_X12_clashes_139_12 X (d + 35) (nI j) a (nI k) 0 J T = c_X12_clashes_139_12 X (d + 35) (nI j) _ (nI k) (nI 6) K T := q4
    simp (disch := omega) only [n3, q_bd_l, z_ltT, z_ltF, z_eqT, z_eqF, z_ltlT, z_ltlF, z_lltT, z_lltF, z_eqlT, z_eqlF, z_in, z_k7, z_cl, z_lneg, z_llT, z_llF, z_s1, z_nI_cl, z_nlt0, z_ne_m1, z_b0, z_b1, z_la, z_al, z_lm, z_ml, z_nm, nI_add, pk_mul, ↓reduceIte, not_true_eq_false, not_false_eq_true, true_or, or_true, false_or, or_false, true_and, and_true, and_false, false_and, Classical.not_not, Nat.add_zero, z_01, z_em, z_bit_p, Nat.not_le, Nat.not_lt, reduceCtorEq, if_true, if_false]
    rw [go, e_X12_clashes_139_12, z_or_any]
    simp (disch := omega) only [q_bd_l, z_ltT, z_ltF, z_eqT, z_eqF, z_ltlT, z_ltlF, z_lltT, z_lltF, z_eqlT, z_eqlF, z_in, z_k7, z_cl, z_lneg, z_llT, z_llF, z_s1, z_nI_cl, z_nlt0, z_ne_m1, z_b0, z_b1, z_la, z_al, z_lm, z_ml, z_nm, nI_add, pk_mul, ↓reduceIte, not_true_eq_false, not_false_eq_true, true_or, or_true, false_or, or_false, true_and, and_true, and_false, false_and, Classical.not_not, Nat.add_zero, z_01, z_em, z_bit_p, Nat.not_le, Nat.not_lt, reduceCtorEq, if_true, if_false]
    have e9 : z_any (fun t => decide (k ≠ j) && decide (¬ z_sz (R_adv (I 140) j t - R_adv (I 140) k t) < 5)) 6 = (decide (k ≠ j) && R_dc (I 140) j k) := by
      unfold R_dc
      by_cases ej : k = j
      · simp only [ej, ne_eq, not_true_eq_false, decide_false, Bool.false_and]
        rfl
      · simp only [ej, ne_eq, not_false_eq_true, decide_true, Bool.true_and]
    rw [e9]) 0 (I, none) (z_fr_r _ _)
  dsimp only at p1 p4
  refine ⟨J, ?_, p1⟩
  rw [e_X12_clashes_139]
  refine p4.trans ?_
  have n3 : J 140 3 = nI n := by rw [z_r140 p1]; exact h.1
  rw [e_X12_clashes_139_4]
  simp (disch := omega) only [n3, q_bd_l, z_ltT, z_ltF, z_eqT, z_eqF, z_ltlT, z_ltlF, z_lltT, z_lltF, z_eqlT, z_eqlF, z_in, z_k7, z_cl, z_lneg, z_llT, z_llF, z_s1, z_nI_cl, z_nlt0, z_ne_m1, z_b0, z_b1, z_la, z_al, z_lm, z_ml, z_nm, nI_add, pk_mul, ↓reduceIte, not_true_eq_false, not_false_eq_true, true_or, or_true, false_or, or_false, true_and, and_true, and_false, false_and, Classical.not_not, Nat.add_zero, z_01, z_em, z_bit_p, Nat.not_le, Nat.not_lt, reduceCtorEq, if_true, if_false]
  rfl
