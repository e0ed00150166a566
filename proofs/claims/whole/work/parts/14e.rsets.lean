/-! ===== THE REFERENCE: seals, sets, places, labels, the log ===== -/
/-- the first of n for which p holds; n without -/
def z_fst (p : Nat → Bool) : Nat → Nat
  | 0 => 0
  | n + 1 => if z_fst p n < n then z_fst p n else if p n = true then n else n + 1
theorem z_fst_le (p : Nat → Bool) : ∀ n, z_fst p n ≤ n
  | 0 => Nat.le_refl 0
  | n + 1 => by
    have := z_fst_le p n
    unfold z_fst
    repeat' split
    all_goals omega
theorem z_fst_c {p q : Nat → Bool} : ∀ {n : Nat}, (∀ k, k < n → p k = q k) → z_fst p n = z_fst q n
  | 0, _ => rfl
  | n + 1, h => by
    unfold z_fst
    rw [z_fst_c (fun k hk => h k (by omega)), h n (by omega)]
theorem z_fst_no {p : Nat → Bool} : ∀ {n : Nat}, (∀ k, k < n → p k = false) → z_fst p n = n
  | 0, _ => rfl
  | n + 1, h => by
    unfold z_fst
    rw [z_fst_no (fun k hk => h k (by omega)), if_neg (by omega), h n (by omega)]
    rfl
theorem z_fst_hit {p : Nat → Bool} {k : Nat} (h : ∀ i, i < k → p i = false) (hk : p k = true) : ∀ {n : Nat}, k < n → z_fst p n = k
  | 0, h => by omega
  | n + 1, hn => by
    unfold z_fst
    by_cases e : k = n
    · subst e
      rw [z_fst_no h, if_neg (by omega), if_pos hk]
    · rw [z_fst_hit h hk (n := n) (by omega), if_pos (by omega)]
theorem z_findS {σ : Type} (F : Nat → σ → Rs) (G : Nat → σ → Rs) (P : σ → Prop) (p : Nat → Bool) (n : Nat) (h : ∀ k J, k < n → P J → ∃ J', P J' ∧ F k J = if p k = true then G k J' else F (k + 1) J') (J : σ) (h0 : P J) : ∃ J', P J' ∧ F 0 J = if z_fst p n < n then G (z_fst p n) J' else F n J' := by
  have key : ∀ m k J, k + m = n → P J → (∀ i, i < k → p i = false) → ∃ J', P J' ∧ F k J = if z_fst p n < n then G (z_fst p n) J' else F n J' := by
    intro m
    induction m with
    | zero =>
      intro k J hk hP hno
      have hk : k = n := by omega
      subst hk
      refine ⟨J, hP, ?_⟩
      rw [z_fst_no hno, if_neg (by omega)]
    | succ m ih =>
      intro k J hk hP hno
      obtain ⟨J', h1, h2⟩ := h k J (by omega) hP
      cases hp : p k with
      | true =>
        refine ⟨J', h1, ?_⟩
        rw [h2, if_pos hp, z_fst_hit hno hp (by omega), if_pos (by omega)]
      | false =>
        obtain ⟨J2, h3, h4⟩ := ih (k + 1) J' (by omega) h1 (fun i hi => by
          by_cases e : i = k
          · rw [e]; exact hp
          · exact hno i (by omega))
        refine ⟨J2, h3, ?_⟩
        rw [h2, hp]
        exact h4
  exact key n 0 J (by omega) h0 (fun i hi => by omega)
theorem z_find (F : Nat → Rs) (G : Nat → Rs) (p : Nat → Bool) (n : Nat) (h : ∀ k, k < n → F k = if p k = true then G k else F (k + 1)) : F 0 = if z_fst p n < n then G (z_fst p n) else F n := by
  obtain ⟨-, -, h1⟩ := z_findS (σ := Unit) (fun k _ => F k) (fun k _ => G k) (fun _ => True) p n (fun k _ hk _ => ⟨(), trivial, h k hk⟩) () trivial
  exact h1
theorem z_2n {n : Nat} (h : n ≤ 10) : 1 ≤ 2 ^ n ∧ 2 ^ n ≤ 1024 := ⟨Nat.one_le_two_pow, Nat.pow_le_pow_right (by decide) h⟩
def R_bits (s : Int32) : Int32 := z_it (fun k a => a + ((s >>> (nI k &&& 31)) &&& (1 : Int32))) 31 0
theorem l_bits (X : Sx) (d : Nat) (s : Int32) (I : Ii) (T : Tt) : c_X12_bits X (d + 1) s I T = z_r (R_bits s) I T := by
  rw [e_X12_bits]
  refine (z_for (fun k a => c_X12_bits_4 X d s a (nI k) I T) (fun k a => a + ((s >>> (nI k &&& 31)) &&& (1 : Int32))) 31 (fun k a hk => ?_) 0).trans ?_
  · rw [e_X12_bits_4]
    simp (disch := omega) only [q_bd_l, z_ltT, z_ltF, z_eqT, z_eqF, z_ltlT, z_ltlF, z_lltT, z_lltF, z_eqlT, z_eqlF, z_in, z_k7, z_cl, z_lneg, z_llT, z_llF, z_s1, z_nI_cl, z_nlt0, z_ne_m1, z_b0, z_b1, z_la, z_al, z_lm, z_ml, z_nm, nI_add, pk_mul, ↓reduceIte, not_true_eq_false, not_false_eq_true, true_or, or_true, false_or, or_false, true_and, and_true, and_false, false_and, Classical.not_not, Nat.add_zero, z_01, z_em, z_bit_p, Nat.not_le, Nat.not_lt, reduceCtorEq, if_true, if_false]
  · rw [e_X12_bits_4]
    simp (disch := omega) only [q_bd_l, z_ltT, z_ltF, z_eqT, z_eqF, z_ltlT, z_ltlF, z_lltT, z_lltF, z_eqlT, z_eqlF, z_in, z_k7, z_cl, z_lneg, z_llT, z_llF, z_s1, z_nI_cl, z_nlt0, z_ne_m1, z_b0, z_b1, z_la, z_al, z_lm, z_ml, z_nm, nI_add, pk_mul, ↓reduceIte, not_true_eq_false, not_false_eq_true, true_or, or_true, false_or, or_false, true_and, and_true, and_false, false_and, Classical.not_not, Nat.add_zero, z_01, z_em, z_bit_p, Nat.not_le, Nat.not_lt, reduceCtorEq, if_true, if_false]
    rfl
theorem l_allJars (X : Sx) (d : Nat) (I : Ii) (T : Tt) (n : Nat) (h3 : I 140 3 = nI n) (hn : n ≤ 10) : c_X12_allJars_139 X (d + 1) I T = z_r (nI (2 ^ n - 1)) I T := by
  have h2 := z_2n hn
  have e : nI (2 ^ n) - (1 : Int32) = nI (2 ^ n - 1) := pk_sub h2.1
  rw [e_X12_allJars_139, h3, z_shl1 n (by omega), e]
theorem l_won (X : Sx) (d : Nat) (s : Int32) (I : Ii) (T : Tt) (n : Nat) (h3 : I 140 3 = nI n) (hn : n ≤ 10) : c_X12_wonBy_139 X (d + 3) s I T = z_r (z_b (¬ R_seals (I 140) n s < I 140 5)) I T := by
  rw [e_X12_wonBy_139, l_seals X d s I T n h3 hn]
  unfold z_b
  by_cases h : R_seals (I 140) n s < I 140 5 <;> simp (disch := omega) only [e_X12_wonBy_139, e_X12_wonBy_139_3, k_X12_wonBy_139_3, h, q_bd_l, z_ltT, z_ltF, z_eqT, z_eqF, z_ltlT, z_ltlF, z_lltT, z_lltF, z_eqlT, z_eqlF, z_in, z_k7, z_cl, z_lneg, z_llT, z_llF, z_s1, z_nI_cl, z_nlt0, z_ne_m1, z_b0, z_b1, z_la, z_al, z_lm, z_ml, z_nm, nI_add, pk_mul, ↓reduceIte, not_true_eq_false, not_false_eq_true, true_or, or_true, false_or, or_false, true_and, and_true, and_false, false_and, Classical.not_not, Nat.add_zero, z_01, z_em, z_bit_p, Nat.not_le, Nat.not_lt, reduceCtorEq, if_true, if_false]
theorem l_wins (X : Sx) (d : Nat) (s : Int32) (I : Ii) (T : Tt) (n : Nat) (h3 : I 140 3 = nI n) (hn : n ≤ 10) : c_X12_wins_139 X (d + 4) s I T = z_r (z_b (¬ R_seals (I 140) n s < I 140 5)) (q_w I 139 0 0) T := by
  have e : (q_w I 139 0 0) 140 = I 140 := z_w_a _ _ _ _ _ (by decide)
  have := l_won X d s (q_w I 139 0 0) T n (by rw [e]; exact h3) hn
  rw [e] at this
  rw [e_X12_wins_139, this]
  simp (disch := omega) only [e_X12_wins_139, e_X12_wins_139_6, k_X12_wins_139_6, Classical.em, q_bd_l, z_ltT, z_ltF, z_eqT, z_eqF, z_ltlT, z_ltlF, z_lltT, z_lltF, z_eqlT, z_eqlF, z_in, z_k7, z_cl, z_lneg, z_llT, z_llF, z_s1, z_nI_cl, z_nlt0, z_ne_m1, z_b0, z_b1, z_la, z_al, z_lm, z_ml, z_nm, nI_add, pk_mul, ↓reduceIte, not_true_eq_false, not_false_eq_true, true_or, or_true, false_or, or_false, true_and, and_true, and_false, false_and, Classical.not_not, Nat.add_zero, z_01, z_em, z_bit_p, Nat.not_le, Nat.not_lt, reduceCtorEq, if_true, if_false]
/-- the smallest set that wins so far -/
def R_s1 (r : Nat → Int32) (n : Nat) (deal : Bool) (s : Nat) (f : Int32) : Int32 := if R_seals r n (nI s) < r 5 then f else if f = -1 ∨ (if deal = true then R_seals r n (nI s) < R_seals r n f else R_bits (nI s) < R_bits f) then nI s else f
def R_sm (r : Nat → Int32) (n : Nat) (deal : Bool) : Int32 := z_it (R_s1 r n deal) (2 ^ n) (-1)
theorem l_smallest (X : Sx) (d : Nat) (dl : Int32) (deal : Bool) (hd : (dl = 0) = (deal = false)) (I : Ii) (T : Tt) (n : Nat) (h3 : I 140 3 = nI n) (hn : n ≤ 10) : c_X12_smallest_139 X (d + 5) dl I T = z_r (R_sm (I 140) n deal) (q_w I 139 0 0) T := by
  have h2 := z_2n hn
  rw [e_X12_smallest_139]
  have e : (q_w I 139 0 0) 140 = I 140 := z_w_a _ _ _ _ _ (by decide)
  generalize q_w I 139 0 0 = J at *
  rw [← e] at h3 ⊢
  refine (z_for (fun k f => c_X12_smallest_139_7 X (d + 4) dl f (nI k) J T) (R_s1 (J 140) n deal) (2 ^ n) (fun k f hk => ?_) (-1)).trans ?_
  · rw [e_X12_smallest_139_7]
    unfold R_s1
    by_cases h4 : R_seals (J 140) n (nI k) < J 140 5
    · simp (disch := omega) only [e_X12_smallest_139_10, k_X12_smallest_139_10, e_X12_smallest_139_14, k_X12_smallest_139_14, e_X12_smallest_139_24, k_X12_smallest_139_24, e_X12_smallest_139_27, k_X12_smallest_139_27, e_X12_smallest_139_31, k_X12_smallest_139_31, e_X12_smallest_139_33, k_X12_smallest_139_33, e_X12_smallest_139_34, e_X12_smallest_139_36, l_allJars X _ J T n h3 hn, l_won X _ _ J T n h3 hn, h4, q_bd_l, z_ltT, z_ltF, z_eqT, z_eqF, z_ltlT, z_ltlF, z_lltT, z_lltF, z_eqlT, z_eqlF, z_in, z_k7, z_cl, z_lneg, z_llT, z_llF, z_s1, z_nI_cl, z_nlt0, z_ne_m1, z_b0, z_b1, z_la, z_al, z_lm, z_ml, z_nm, nI_add, pk_mul, ↓reduceIte, not_true_eq_false, not_false_eq_true, true_or, or_true, false_or, or_false, true_and, and_true, and_false, false_and, Classical.not_not, Nat.add_zero, z_01, z_em, z_bit_p, Nat.not_le, Nat.not_lt, reduceCtorEq, if_true, if_false]
    · by_cases h5 : f = -1
      · simp (disch := omega) only [e_X12_smallest_139_10, k_X12_smallest_139_10, e_X12_smallest_139_14, k_X12_smallest_139_14, e_X12_smallest_139_24, k_X12_smallest_139_24, e_X12_smallest_139_27, k_X12_smallest_139_27, e_X12_smallest_139_31, k_X12_smallest_139_31, e_X12_smallest_139_33, k_X12_smallest_139_33, e_X12_smallest_139_34, e_X12_smallest_139_36, l_allJars X _ J T n h3 hn, l_won X _ _ J T n h3 hn, h4, h5, q_bd_l, z_ltT, z_ltF, z_eqT, z_eqF, z_ltlT, z_ltlF, z_lltT, z_lltF, z_eqlT, z_eqlF, z_in, z_k7, z_cl, z_lneg, z_llT, z_llF, z_s1, z_nI_cl, z_nlt0, z_ne_m1, z_b0, z_b1, z_la, z_al, z_lm, z_ml, z_nm, nI_add, pk_mul, ↓reduceIte, not_true_eq_false, not_false_eq_true, true_or, or_true, false_or, or_false, true_and, and_true, and_false, false_and, Classical.not_not, Nat.add_zero, z_01, z_em, z_bit_p, Nat.not_le, Nat.not_lt, reduceCtorEq, if_true, if_false]
      · cases deal with
        | false =>
          have hd' : (dl = 0) = True := by rw [hd]; simp
          by_cases h6 : R_bits (nI k) < R_bits f <;> simp (disch := omega) only [e_X12_smallest_139_10, k_X12_smallest_139_10, e_X12_smallest_139_14, k_X12_smallest_139_14, e_X12_smallest_139_24, k_X12_smallest_139_24, e_X12_smallest_139_27, k_X12_smallest_139_27, e_X12_smallest_139_31, k_X12_smallest_139_31, e_X12_smallest_139_33, k_X12_smallest_139_33, e_X12_smallest_139_34, e_X12_smallest_139_36, l_allJars X _ J T n h3 hn, l_won X _ _ J T n h3 hn, h4, h5, h6, hd', l_bits, q_bd_l, z_ltT, z_ltF, z_eqT, z_eqF, z_ltlT, z_ltlF, z_lltT, z_lltF, z_eqlT, z_eqlF, z_in, z_k7, z_cl, z_lneg, z_llT, z_llF, z_s1, z_nI_cl, z_nlt0, z_ne_m1, z_b0, z_b1, z_la, z_al, z_lm, z_ml, z_nm, nI_add, pk_mul, ↓reduceIte, not_true_eq_false, not_false_eq_true, true_or, or_true, false_or, or_false, true_and, and_true, and_false, false_and, Classical.not_not, Nat.add_zero, z_01, z_em, z_bit_p, Nat.not_le, Nat.not_lt, reduceCtorEq, if_true, if_false, decide_true, decide_false, Bool.and_true, Bool.and_false, Bool.true_and, Bool.false_and, Bool.or_true, Bool.or_false, Bool.true_or, Bool.false_or, Bool.false_eq_true, ne_eq, Bool.not_true, Bool.not_false, decide_not]
        | true =>
          have hd' : (dl = 0) = False := by rw [hd]; simp
          by_cases h6 : R_seals (J 140) n (nI k) < R_seals (J 140) n f <;> simp (disch := omega) only [e_X12_smallest_139_10, k_X12_smallest_139_10, e_X12_smallest_139_14, k_X12_smallest_139_14, e_X12_smallest_139_24, k_X12_smallest_139_24, e_X12_smallest_139_27, k_X12_smallest_139_27, e_X12_smallest_139_31, k_X12_smallest_139_31, e_X12_smallest_139_33, k_X12_smallest_139_33, e_X12_smallest_139_34, e_X12_smallest_139_36, l_allJars X _ J T n h3 hn, l_won X _ _ J T n h3 hn, l_seals X _ _ J T n h3 hn, h4, h5, h6, hd', q_bd_l, z_ltT, z_ltF, z_eqT, z_eqF, z_ltlT, z_ltlF, z_lltT, z_lltF, z_eqlT, z_eqlF, z_in, z_k7, z_cl, z_lneg, z_llT, z_llF, z_s1, z_nI_cl, z_nlt0, z_ne_m1, z_b0, z_b1, z_la, z_al, z_lm, z_ml, z_nm, nI_add, pk_mul, ↓reduceIte, not_true_eq_false, not_false_eq_true, true_or, or_true, false_or, or_false, true_and, and_true, and_false, false_and, Classical.not_not, Nat.add_zero, z_01, z_em, z_bit_p, Nat.not_le, Nat.not_lt, reduceCtorEq, if_true, if_false, decide_true, decide_false, Bool.and_true, Bool.and_false, Bool.true_and, Bool.false_and, Bool.or_true, Bool.or_false, Bool.true_or, Bool.false_or, Bool.false_eq_true, ne_eq, Bool.not_true, Bool.not_false, decide_not]
  · rw [e_X12_smallest_139_7]
    simp (disch := omega) only [e_X12_smallest_139_10, k_X12_smallest_139_10, e_X12_smallest_139_14, k_X12_smallest_139_14, e_X12_smallest_139_24, k_X12_smallest_139_24, e_X12_smallest_139_27, k_X12_smallest_139_27, e_X12_smallest_139_31, k_X12_smallest_139_31, e_X12_smallest_139_33, k_X12_smallest_139_33, e_X12_smallest_139_34, e_X12_smallest_139_36, l_allJars X _ J T n h3 hn, q_bd_l, z_ltT, z_ltF, z_eqT, z_eqF, z_ltlT, z_ltlF, z_lltT, z_lltF, z_eqlT, z_eqlF, z_in, z_k7, z_cl, z_lneg, z_llT, z_llF, z_s1, z_nI_cl, z_nlt0, z_ne_m1, z_b0, z_b1, z_la, z_al, z_lm, z_ml, z_nm, nI_add, pk_mul, ↓reduceIte, not_true_eq_false, not_false_eq_true, true_or, or_true, false_or, or_false, true_and, and_true, and_false, false_and, Classical.not_not, Nat.add_zero, z_01, z_em, z_bit_p, Nat.not_le, Nat.not_lt, reduceCtorEq, if_true, if_false]
    rfl
def R_p1 (r : Nat → Int32) (n j s : Nat) (a : Int32) : Int32 := a + (if z_bit (nI s) j = false ∧ R_seals r n (nI s) < r 5 ∧ ¬ R_seals r n (nI s ||| (1 : Int32) <<< (nI j &&& 31)) < r 5 then 1 else 0)
def R_pow (r : Nat → Int32) (n j : Nat) : Int32 := z_it (R_p1 r n j) (2 ^ n) 0
theorem l_power (X : Sx) (d : Nat) (I : Ii) (T : Tt) (n j : Nat) (h3 : I 140 3 = nI n) (hn : n ≤ 10) : c_X12_power_139 X (d + 4) (nI j) I T = z_r (R_pow (I 140) n j) I T := by
  have h2 := z_2n hn
  rw [e_X12_power_139]
  refine (z_for (fun k a => c_X12_power_139_4 X (d + 3) (nI j) a (nI k) I T) (R_p1 (I 140) n j) (2 ^ n) (fun k a hk => ?_) 0).trans ?_
  · rw [e_X12_power_139_4]
    unfold R_p1
    cases hb : z_bit (nI k) j with
    | true => simp (disch := omega) only [e_X12_power_139_7, k_X12_power_139_7, e_X12_power_139_12, k_X12_power_139_12, e_X12_power_139_16, k_X12_power_139_16, e_X12_power_139_24, k_X12_power_139_24, e_X12_power_139_27, e_X12_power_139_28, l_allJars X _ I T n h3 hn, l_isOf, hb, q_bd_l, z_ltT, z_ltF, z_eqT, z_eqF, z_ltlT, z_ltlF, z_lltT, z_lltF, z_eqlT, z_eqlF, z_in, z_k7, z_cl, z_lneg, z_llT, z_llF, z_s1, z_nI_cl, z_nlt0, z_ne_m1, z_b0, z_b1, z_la, z_al, z_lm, z_ml, z_nm, nI_add, pk_mul, ↓reduceIte, not_true_eq_false, not_false_eq_true, true_or, or_true, false_or, or_false, true_and, and_true, and_false, false_and, Classical.not_not, Nat.add_zero, z_01, z_em, z_bit_p, Nat.not_le, Nat.not_lt, reduceCtorEq, if_true, if_false, decide_true, decide_false, Bool.and_true, Bool.and_false, Bool.true_and, Bool.false_and, Bool.or_true, Bool.or_false, Bool.true_or, Bool.false_or, Bool.false_eq_true, ne_eq, Bool.not_true, Bool.not_false, decide_not]
    | false =>
      by_cases h4 : R_seals (I 140) n (nI k) < I 140 5
      · by_cases h5 : R_seals (I 140) n (nI k ||| (1 : Int32) <<< (nI j &&& 31)) < I 140 5 <;> simp (disch := omega) only [e_X12_power_139_7, k_X12_power_139_7, e_X12_power_139_12, k_X12_power_139_12, e_X12_power_139_16, k_X12_power_139_16, e_X12_power_139_24, k_X12_power_139_24, e_X12_power_139_27, e_X12_power_139_28, l_allJars X _ I T n h3 hn, l_isOf, hb, l_won X _ _ I T n h3 hn, h4, h5, q_bd_l, z_ltT, z_ltF, z_eqT, z_eqF, z_ltlT, z_ltlF, z_lltT, z_lltF, z_eqlT, z_eqlF, z_in, z_k7, z_cl, z_lneg, z_llT, z_llF, z_s1, z_nI_cl, z_nlt0, z_ne_m1, z_b0, z_b1, z_la, z_al, z_lm, z_ml, z_nm, nI_add, pk_mul, ↓reduceIte, not_true_eq_false, not_false_eq_true, true_or, or_true, false_or, or_false, true_and, and_true, and_false, false_and, Classical.not_not, Nat.add_zero, z_01, z_em, z_bit_p, Nat.not_le, Nat.not_lt, reduceCtorEq, if_true, if_false, decide_true, decide_false, Bool.and_true, Bool.and_false, Bool.true_and, Bool.false_and, Bool.or_true, Bool.or_false, Bool.true_or, Bool.false_or, Bool.false_eq_true, ne_eq, Bool.not_true, Bool.not_false, decide_not]
      · simp (disch := omega) only [e_X12_power_139_7, k_X12_power_139_7, e_X12_power_139_12, k_X12_power_139_12, e_X12_power_139_16, k_X12_power_139_16, e_X12_power_139_24, k_X12_power_139_24, e_X12_power_139_27, e_X12_power_139_28, l_allJars X _ I T n h3 hn, l_isOf, hb, l_won X _ _ I T n h3 hn, h4, q_bd_l, z_ltT, z_ltF, z_eqT, z_eqF, z_ltlT, z_ltlF, z_lltT, z_lltF, z_eqlT, z_eqlF, z_in, z_k7, z_cl, z_lneg, z_llT, z_llF, z_s1, z_nI_cl, z_nlt0, z_ne_m1, z_b0, z_b1, z_la, z_al, z_lm, z_ml, z_nm, nI_add, pk_mul, ↓reduceIte, not_true_eq_false, not_false_eq_true, true_or, or_true, false_or, or_false, true_and, and_true, and_false, false_and, Classical.not_not, Nat.add_zero, z_01, z_em, z_bit_p, Nat.not_le, Nat.not_lt, reduceCtorEq, if_true, if_false, decide_true, decide_false, Bool.and_true, Bool.and_false, Bool.true_and, Bool.false_and, Bool.or_true, Bool.or_false, Bool.true_or, Bool.false_or, Bool.false_eq_true, ne_eq, Bool.not_true, Bool.not_false, decide_not]
  · rw [e_X12_power_139_4]
    simp (disch := omega) only [e_X12_power_139_7, k_X12_power_139_7, e_X12_power_139_12, k_X12_power_139_12, e_X12_power_139_16, k_X12_power_139_16, e_X12_power_139_24, k_X12_power_139_24, e_X12_power_139_27, e_X12_power_139_28, l_allJars X _ I T n h3 hn, q_bd_l, z_ltT, z_ltF, z_eqT, z_eqF, z_ltlT, z_ltlF, z_lltT, z_lltF, z_eqlT, z_eqlF, z_in, z_k7, z_cl, z_lneg, z_llT, z_llF, z_s1, z_nI_cl, z_nlt0, z_ne_m1, z_b0, z_b1, z_la, z_al, z_lm, z_ml, z_nm, nI_add, pk_mul, ↓reduceIte, not_true_eq_false, not_false_eq_true, true_or, or_true, false_or, or_false, true_and, and_true, and_false, false_and, Classical.not_not, Nat.add_zero, z_01, z_em, z_bit_p, Nat.not_le, Nat.not_lt, reduceCtorEq, if_true, if_false]
    rfl
theorem l_dummies (X : Sx) (d : Nat) (I : Ii) (T : Tt) (n : Nat) (h3 : I 140 3 = nI n) (hn : n ≤ 10) : c_X12_dummies_139 X (d + 5) I T = z_r (z_set (fun j => decide (R_pow (I 140) n j = 0)) n) (q_w I 139 0 0) T := by
  rw [e_X12_dummies_139]
  have e : (q_w I 139 0 0) 140 = I 140 := z_w_a _ _ _ _ _ (by decide)
  generalize q_w I 139 0 0 = J at *
  rw [← e] at h3 ⊢
  refine (z_for (fun k a => c_X12_dummies_139_7 X (d + 4) a (nI k) J T) (fun k a => a ||| (if decide (R_pow (J 140) n k = 0) = true then (1 : Int32) <<< (nI k &&& 31) else 0)) n (fun k a hk => ?_) 0).trans ?_
  · rw [e_X12_dummies_139_7]
    by_cases h4 : R_pow (J 140) n k = 0 <;> simp (disch := omega) only [e_X12_dummies_139_17, k_X12_dummies_139_17, e_X12_dummies_139_23, h3, l_power X _ J T n _ h3 hn, h4, q_bd_l, z_ltT, z_ltF, z_eqT, z_eqF, z_ltlT, z_ltlF, z_lltT, z_lltF, z_eqlT, z_eqlF, z_in, z_k7, z_cl, z_lneg, z_llT, z_llF, z_s1, z_nI_cl, z_nlt0, z_ne_m1, z_b0, z_b1, z_la, z_al, z_lm, z_ml, z_nm, nI_add, pk_mul, ↓reduceIte, not_true_eq_false, not_false_eq_true, true_or, or_true, false_or, or_false, true_and, and_true, and_false, false_and, Classical.not_not, Nat.add_zero, z_01, z_em, z_bit_p, Nat.not_le, Nat.not_lt, reduceCtorEq, if_true, if_false, decide_true, decide_false, Bool.and_true, Bool.and_false, Bool.true_and, Bool.false_and, Bool.or_true, Bool.or_false, Bool.true_or, Bool.false_or, Bool.false_eq_true, ne_eq, Bool.not_true, Bool.not_false, decide_not]
  · rw [e_X12_dummies_139_7]
    simp (disch := omega) only [h3, q_bd_l, z_ltT, z_ltF, z_eqT, z_eqF, z_ltlT, z_ltlF, z_lltT, z_lltF, z_eqlT, z_eqlF, z_in, z_k7, z_cl, z_lneg, z_llT, z_llF, z_s1, z_nI_cl, z_nlt0, z_ne_m1, z_b0, z_b1, z_la, z_al, z_lm, z_ml, z_nm, nI_add, pk_mul, ↓reduceIte, not_true_eq_false, not_false_eq_true, true_or, or_true, false_or, or_false, true_and, and_true, and_false, false_and, Classical.not_not, Nat.add_zero, z_01, z_em, z_bit_p, Nat.not_le, Nat.not_lt, reduceCtorEq, if_true, if_false]
    rfl
def R_harm (r : Nat → Int32) (n : Nat) : Int32 := z_it (fun k a => a + r (142 + (r (12 + 13 * k + 1)).toNatClampNeg) * r (12 + 13 * k + 2)) n 0
theorem l_harm (X : Sx) (d : Nat) (I : Ii) (T : Tt) (n : Nat) (h3 : I 140 3 = nI n) (hn : n ≤ 10) (hp : ∀ j, j < n → z_le (I 140 (12 + 13 * j + 1)) 11) : c_X12_harm_139 X (d + 2) I T = z_r (R_harm (I 140) n) (q_w I 139 0 0) T := by
  rw [e_X12_harm_139]
  have e : (q_w I 139 0 0) 140 = I 140 := z_w_a _ _ _ _ _ (by decide)
  generalize q_w I 139 0 0 = J at *
  rw [← e] at h3 hp ⊢
  refine (z_for (fun k a => c_X12_harm_139_7 X (d + 1) a (nI k) J T) (fun k a => a + J 140 (142 + (J 140 (12 + 13 * k + 1)).toNatClampNeg) * J 140 (12 + 13 * k + 2)) n (fun k a hk => ?_) 0).trans ?_
  · obtain ⟨p, hp1, hp2⟩ := hp k hk
    rw [e_X12_harm_139_7]
    simp (disch := omega) only [e_X12_harm_139_21, k_X12_harm_139_21, e_X12_harm_139_27, k_X12_harm_139_27, h3, l_of, hp2, q_bd_l, z_ltT, z_ltF, z_eqT, z_eqF, z_ltlT, z_ltlF, z_lltT, z_lltF, z_eqlT, z_eqlF, z_in, z_k7, z_cl, z_lneg, z_llT, z_llF, z_s1, z_nI_cl, z_nlt0, z_ne_m1, z_b0, z_b1, z_la, z_al, z_lm, z_ml, z_nm, nI_add, pk_mul, ↓reduceIte, not_true_eq_false, not_false_eq_true, true_or, or_true, false_or, or_false, true_and, and_true, and_false, false_and, Classical.not_not, Nat.add_zero, z_01, z_em, z_bit_p, Nat.not_le, Nat.not_lt, reduceCtorEq, if_true, if_false]
  · rw [e_X12_harm_139_7]
    simp (disch := omega) only [h3, q_bd_l, z_ltT, z_ltF, z_eqT, z_eqF, z_ltlT, z_ltlF, z_lltT, z_lltF, z_eqlT, z_eqlF, z_in, z_k7, z_cl, z_lneg, z_llT, z_llF, z_s1, z_nI_cl, z_nlt0, z_ne_m1, z_b0, z_b1, z_la, z_al, z_lm, z_ml, z_nm, nI_add, pk_mul, ↓reduceIte, not_true_eq_false, not_false_eq_true, true_or, or_true, false_or, or_false, true_and, and_true, and_false, false_and, Classical.not_not, Nat.add_zero, z_01, z_em, z_bit_p, Nat.not_le, Nat.not_lt, reduceCtorEq, if_true, if_false]
    rfl
def R_falls (r : Nat → Int32) (n : Nat) (p : Int32) : Int32 := z_it (fun k a => a + (if ¬ r (12 + 13 * k + 1) - p < 0 ∧ ¬ 2 < r (12 + 13 * k + 1) - p then r (12 + 13 * k + 2) else 0)) n 0
theorem l_fallsFrom (X : Sx) (d : Nat) (I : Ii) (T : Tt) (p : Int32) (n : Nat) (h3 : I 140 3 = nI n) (hn : n ≤ 10) : c_X12_fallsFrom_139 X (d + 2) p I T = z_r (R_falls (I 140) n p) I T := by
  rw [e_X12_fallsFrom_139]
  refine (z_for (fun k a => c_X12_fallsFrom_139_4 X (d + 1) p a (nI k) I T) (fun k a => a + (if ¬ I 140 (12 + 13 * k + 1) - p < 0 ∧ ¬ 2 < I 140 (12 + 13 * k + 1) - p then I 140 (12 + 13 * k + 2) else 0)) n (fun k a hk => ?_) 0).trans ?_
  · rw [e_X12_fallsFrom_139_4]
    by_cases h4 : ¬ I 140 (12 + 13 * k + 1) - p < 0 ∧ ¬ 2 < I 140 (12 + 13 * k + 1) - p
    · have h4' := eq_true h4
      simp (disch := omega) only [e_X12_fallsFrom_139_15, k_X12_fallsFrom_139_15, e_X12_fallsFrom_139_20, k_X12_fallsFrom_139_20, e_X12_fallsFrom_139_25, k_X12_fallsFrom_139_25, e_X12_fallsFrom_139_27, h3, l_of, l_isIn, h4', q_bd_l, z_ltT, z_ltF, z_eqT, z_eqF, z_ltlT, z_ltlF, z_lltT, z_lltF, z_eqlT, z_eqlF, z_in, z_k7, z_cl, z_lneg, z_llT, z_llF, z_s1, z_nI_cl, z_nlt0, z_ne_m1, z_b0, z_b1, z_la, z_al, z_lm, z_ml, z_nm, nI_add, pk_mul, ↓reduceIte, not_true_eq_false, not_false_eq_true, true_or, or_true, false_or, or_false, true_and, and_true, and_false, false_and, Classical.not_not, Nat.add_zero, z_01, z_em, z_bit_p, Nat.not_le, Nat.not_lt, reduceCtorEq, if_true, if_false]
    · have h4' := eq_false h4
      simp (disch := omega) only [e_X12_fallsFrom_139_15, k_X12_fallsFrom_139_15, e_X12_fallsFrom_139_20, k_X12_fallsFrom_139_20, e_X12_fallsFrom_139_25, k_X12_fallsFrom_139_25, e_X12_fallsFrom_139_27, h3, l_of, l_isIn, h4', q_bd_l, z_ltT, z_ltF, z_eqT, z_eqF, z_ltlT, z_ltlF, z_lltT, z_lltF, z_eqlT, z_eqlF, z_in, z_k7, z_cl, z_lneg, z_llT, z_llF, z_s1, z_nI_cl, z_nlt0, z_ne_m1, z_b0, z_b1, z_la, z_al, z_lm, z_ml, z_nm, nI_add, pk_mul, ↓reduceIte, not_true_eq_false, not_false_eq_true, true_or, or_true, false_or, or_false, true_and, and_true, and_false, false_and, Classical.not_not, Nat.add_zero, z_01, z_em, z_bit_p, Nat.not_le, Nat.not_lt, reduceCtorEq, if_true, if_false]
  · rw [e_X12_fallsFrom_139_4]
    simp (disch := omega) only [h3, q_bd_l, z_ltT, z_ltF, z_eqT, z_eqF, z_ltlT, z_ltlF, z_lltT, z_lltF, z_eqlT, z_eqlF, z_in, z_k7, z_cl, z_lneg, z_llT, z_llF, z_s1, z_nI_cl, z_nlt0, z_ne_m1, z_b0, z_b1, z_la, z_al, z_lm, z_ml, z_nm, nI_add, pk_mul, ↓reduceIte, not_true_eq_false, not_false_eq_true, true_or, or_true, false_or, or_false, true_and, and_true, and_false, false_and, Classical.not_not, Nat.add_zero, z_01, z_em, z_bit_p, Nat.not_le, Nat.not_lt, reduceCtorEq, if_true, if_false]
    rfl
def R_spo (r : Nat → Int32) (n : Nat) : Int32 := z_it (fun k a => a + r (12 + 13 * k + 2)) n 0
theorem l_spoons (X : Sx) (d : Nat) (I : Ii) (T : Tt) (n : Nat) (h3 : I 140 3 = nI n) (hn : n ≤ 10) : c_X12_spoons_139 X (d + 2) I T = z_r (R_spo (I 140) n) I T := by
  rw [e_X12_spoons_139]
  refine (z_for (fun k a => c_X12_spoons_139_4 X (d + 1) a (nI k) I T) (fun k a => a + I 140 (12 + 13 * k + 2)) n (fun k a hk => ?_) 0).trans ?_
  · rw [e_X12_spoons_139_4]
    simp (disch := omega) only [e_X12_spoons_139_15, k_X12_spoons_139_15, h3, l_of, q_bd_l, z_ltT, z_ltF, z_eqT, z_eqF, z_ltlT, z_ltlF, z_lltT, z_lltF, z_eqlT, z_eqlF, z_in, z_k7, z_cl, z_lneg, z_llT, z_llF, z_s1, z_nI_cl, z_nlt0, z_ne_m1, z_b0, z_b1, z_la, z_al, z_lm, z_ml, z_nm, nI_add, pk_mul, ↓reduceIte, not_true_eq_false, not_false_eq_true, true_or, or_true, false_or, or_false, true_and, and_true, and_false, false_and, Classical.not_not, Nat.add_zero, z_01, z_em, z_bit_p, Nat.not_le, Nat.not_lt, reduceCtorEq, if_true, if_false]
  · rw [e_X12_spoons_139_4]
    simp (disch := omega) only [h3, q_bd_l, z_ltT, z_ltF, z_eqT, z_eqF, z_ltlT, z_ltlF, z_lltT, z_lltF, z_eqlT, z_eqlF, z_in, z_k7, z_cl, z_lneg, z_llT, z_llF, z_s1, z_nI_cl, z_nlt0, z_ne_m1, z_b0, z_b1, z_la, z_al, z_lm, z_ml, z_nm, nI_add, pk_mul, ↓reduceIte, not_true_eq_false, not_false_eq_true, true_or, or_true, false_or, or_false, true_and, and_true, and_false, false_and, Classical.not_not, Nat.add_zero, z_01, z_em, z_bit_p, Nat.not_le, Nat.not_lt, reduceCtorEq, if_true, if_false]
    rfl
theorem l_opens (X : Sx) (d : Nat) (I : Ii) (T : Tt) (n : Nat) (h3 : I 140 3 = nI n) (hn : n ≤ 10) : c_X12_opens_139 X (d + 2) I T = z_r (z_set (fun j => decide (I 140 (12 + 13 * j + 6) = 1)) n) I T := by
  rw [e_X12_opens_139]
  refine (z_for (fun k a => c_X12_opens_139_4 X (d + 1) a (nI k) I T) (fun k a => a ||| (if decide (I 140 (12 + 13 * k + 6) = 1) = true then (1 : Int32) <<< (nI k &&& 31) else 0)) n (fun k a hk => ?_) 0).trans ?_
  · rw [e_X12_opens_139_4]
    by_cases h4 : I 140 (12 + 13 * k + 6) = 1 <;> simp (disch := omega) only [e_X12_opens_139_15, k_X12_opens_139_15, e_X12_opens_139_22, h3, l_of, h4, q_bd_l, z_ltT, z_ltF, z_eqT, z_eqF, z_ltlT, z_ltlF, z_lltT, z_lltF, z_eqlT, z_eqlF, z_in, z_k7, z_cl, z_lneg, z_llT, z_llF, z_s1, z_nI_cl, z_nlt0, z_ne_m1, z_b0, z_b1, z_la, z_al, z_lm, z_ml, z_nm, nI_add, pk_mul, ↓reduceIte, not_true_eq_false, not_false_eq_true, true_or, or_true, false_or, or_false, true_and, and_true, and_false, false_and, Classical.not_not, Nat.add_zero, z_01, z_em, z_bit_p, Nat.not_le, Nat.not_lt, reduceCtorEq, if_true, if_false, decide_true, decide_false, Bool.and_true, Bool.and_false, Bool.true_and, Bool.false_and, Bool.or_true, Bool.or_false, Bool.true_or, Bool.false_or, Bool.false_eq_true, ne_eq, Bool.not_true, Bool.not_false, decide_not]
  · rw [e_X12_opens_139_4]
    simp (disch := omega) only [h3, q_bd_l, z_ltT, z_ltF, z_eqT, z_eqF, z_ltlT, z_ltlF, z_lltT, z_lltF, z_eqlT, z_eqlF, z_in, z_k7, z_cl, z_lneg, z_llT, z_llF, z_s1, z_nI_cl, z_nlt0, z_ne_m1, z_b0, z_b1, z_la, z_al, z_lm, z_ml, z_nm, nI_add, pk_mul, ↓reduceIte, not_true_eq_false, not_false_eq_true, true_or, or_true, false_or, or_false, true_and, and_true, and_false, false_and, Classical.not_not, Nat.add_zero, z_01, z_em, z_bit_p, Nat.not_le, Nat.not_lt, reduceCtorEq, if_true, if_false]
    rfl
theorem l_jarAt (X : Sx) (d : Nat) (p : Int32) (I : Ii) (T : Tt) (n : Nat) (h3 : I 140 3 = nI n) (hn : n ≤ 10) : c_X12_jarAt_139 X (d + 2) p I T = z_r (if z_fst (fun j => decide (I 140 (12 + 13 * j + 1) = p)) n < n then nI (z_fst (fun j => decide (I 140 (12 + 13 * j + 1) = p)) n) else -1) I T := by
  rw [e_X12_jarAt_139]
  refine (z_find (fun k => c_X12_jarAt_139_2 X (d + 1) p (nI k) I T) (fun k => z_r (nI k) I T) (fun j => decide (I 140 (12 + 13 * j + 1) = p)) n (fun k hk => ?_)).trans ?_
  · rw [e_X12_jarAt_139_2]
    by_cases h4 : I 140 (12 + 13 * k + 1) = p <;> simp (disch := omega) only [e_X12_jarAt_139_12, k_X12_jarAt_139_12, h3, l_of, h4, q_bd_l, z_ltT, z_ltF, z_eqT, z_eqF, z_ltlT, z_ltlF, z_lltT, z_lltF, z_eqlT, z_eqlF, z_in, z_k7, z_cl, z_lneg, z_llT, z_llF, z_s1, z_nI_cl, z_nlt0, z_ne_m1, z_b0, z_b1, z_la, z_al, z_lm, z_ml, z_nm, nI_add, pk_mul, ↓reduceIte, not_true_eq_false, not_false_eq_true, true_or, or_true, false_or, or_false, true_and, and_true, and_false, false_and, Classical.not_not, Nat.add_zero, z_01, z_em, z_bit_p, Nat.not_le, Nat.not_lt, reduceCtorEq, if_true, if_false, decide_true, decide_false, Bool.and_true, Bool.and_false, Bool.true_and, Bool.false_and, Bool.or_true, Bool.or_false, Bool.true_or, Bool.false_or, Bool.false_eq_true, ne_eq, Bool.not_true, Bool.not_false, decide_not]
  · rw [e_X12_jarAt_139_2]
    split <;> simp (disch := omega) only [h3, q_bd_l, z_ltT, z_ltF, z_eqT, z_eqF, z_ltlT, z_ltlF, z_lltT, z_lltF, z_eqlT, z_eqlF, z_in, z_k7, z_cl, z_lneg, z_llT, z_llF, z_s1, z_nI_cl, z_nlt0, z_ne_m1, z_b0, z_b1, z_la, z_al, z_lm, z_ml, z_nm, nI_add, pk_mul, ↓reduceIte, not_true_eq_false, not_false_eq_true, true_or, or_true, false_or, or_false, true_and, and_true, and_false, false_and, Classical.not_not, Nat.add_zero, z_01, z_em, z_bit_p, Nat.not_le, Nat.not_lt, reduceCtorEq, if_true, if_false]
