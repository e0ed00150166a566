/-! ===== rings of labels ===== -/
def g_st (lab : Nat → Nat) (n : Nat) (q : Nat × Nat) : Nat × Nat := if q.2 < n then (q.1 ||| 2 ^ q.2, lab q.2) else q
def g_go (lab : Nat → Nat) (n f : Nat) (q : Nat × Nat) : Nat × Nat := z_it (fun _ x => g_st lab n x) f q
theorem g_go_s (lab : Nat → Nat) (n f : Nat) (q : Nat × Nat) : g_go lab n (f + 1) q = g_go lab n f (g_st lab n q) := z_it_0 (fun _ x => g_st lab n x) f q
theorem g_go_e (lab : Nat → Nat) (n : Nat) (q : Nat × Nat) (h : ¬ q.2 < n) : ∀ f, g_go lab n f q = q
  | 0 => rfl
  | f + 1 => by
    have e : g_st lab n q = q := by unfold g_st; rw [if_neg h]
    rw [g_go_s, e]; exact g_go_e lab n q h f
/-- what is in s leads into s, to a or nowhere -/
def g_cl (lab : Nat → Nat) (n s a : Nat) : Prop := ∀ x, x < n → s.testBit x = true → lab x < n → s.testBit (lab x) = true ∨ lab x = a
theorem g_go_c (lab : Nat → Nat) (n s : Nat) : ∀ f a, g_cl lab n s a → (a < n → s.testBit a = true) → (g_go lab n f (s, a)).1 = s
  | 0, _, _, _ => rfl
  | f + 1, a, hc, ha => by
    by_cases h : a < n
    · have e : g_st lab n (s, a) = (s, lab a) := by
        unfold g_st
        rw [if_pos h]
        have e2 : s ||| 2 ^ a = s := by
          apply Nat.eq_of_testBit_eq
          intro i
          rw [Nat.testBit_or]
          by_cases ei : i = a
          · subst ei; rw [ha h]; rfl
          · rw [Nat.testBit_two_pow_of_ne (by omega), Bool.or_false]
        rw [e2]
      rw [g_go_s, e]
      refine g_go_c lab n s f (lab a) (fun x hx hs hl => ?_) (fun hl => ?_)
      · rcases hc x hx hs hl with b | b
        · exact .inl b
        · rw [b]; exact .inl (ha h)
      · rcases hc a h (ha h) hl with b | b
        · exact b
        · rw [b]; exact ha h
    · rw [g_go_e lab n (s, a) h]
theorem g_cl_s (lab : Nat → Nat) (n s a : Nat) (hc : g_cl lab n s a) (ha : a < n) : g_cl lab n (s ||| 2 ^ a) (lab a) := by
  intro x hx hs hl
  rw [Nat.testBit_or] at hs ⊢
  by_cases ex : x = a
  · subst ex; exact .inr rfl
  · rw [Nat.testBit_two_pow_of_ne (by omega), Bool.or_false] at hs
    rcases hc x hx hs hl with b | b
    · left; rw [b]; rfl
    · left; rw [b, Nat.testBit_two_pow_self, Bool.or_true]
theorem p_c_set (s a : Nat) (hb : s.testBit a = false) : ∀ n, p_c (fun i => (s ||| 2 ^ a).testBit i) n = p_c (fun i => s.testBit i) n + if a < n then 1 else 0
  | 0 => rfl
  | n + 1 => by
    show p_c _ n + (if (s ||| 2 ^ a).testBit n = true then 1 else 0) = p_c _ n + (if s.testBit n = true then 1 else 0) + _
    rw [p_c_set s a hb n, Nat.testBit_or]
    by_cases e : n = a
    · subst e; rw [hb, Nat.testBit_two_pow_self, if_neg (by omega), if_pos (by omega : n < n + 1)]; simp
    · rw [Nat.testBit_two_pow_of_ne (by omega), Bool.or_false]
      by_cases h : a < n
      · rw [if_pos h, if_pos (by omega : a < n + 1)]; omega
      · rw [if_neg h, if_neg (by omega : ¬ a < n + 1)]; rfl
theorem p_c_lt (s a : Nat) (hb : s.testBit a = false) : ∀ n, a < n → p_c (fun i => s.testBit i) n < n
  | 0, h => by omega
  | n + 1, h => by
    show p_c _ n + (if s.testBit n = true then 1 else 0) < n + 1
    by_cases e : a = n
    · subst e
      rw [hb]
      have : ∀ m, p_c (fun i => s.testBit i) m ≤ m := by
        intro m
        induction m with
        | zero => exact Nat.le_refl _
        | succ m ih => show p_c _ m + (if s.testBit m = true then 1 else 0) ≤ m + 1; split <;> omega
      have := this a
      simp; omega
    · have := p_c_lt s a hb n (by omega)
      split <;> omega
/-- labels as numbers: n is none -/
def g_lab (r : Nat → Int32) (n : Nat) (lab : Nat → Nat) : Prop := ∀ j, j < n → lab j ≤ n ∧ r (12 + 13 * j + 5) = if lab j < n then nI (lab j) else -1
theorem g_lab_ex {r : Nat → Int32} {n m : Nat} (h : R_ok r n m) : ∃ lab, g_lab r n lab := by
  have hx : ∀ j, ∃ y, j < n → y ≤ n ∧ r (12 + 13 * j + 5) = if y < n then nI y else -1 := by
    intro j
    by_cases hj : j < n
    · rcases (h.2.2.2.2.2.2.2.2.2.2.1 j hj).2.2.2.2.2.1 with e | ⟨k, hk, e⟩
      · exact ⟨n, fun _ => ⟨Nat.le_refl _, by rw [if_neg (by omega)]; exact e⟩⟩
      · exact ⟨k, fun _ => ⟨by omega, by rw [if_pos hk]; exact e⟩⟩
    · exact ⟨0, fun a => absurd a hj⟩
  obtain ⟨lab, hl⟩ := Classical.axiomOfChoice hx
  exact ⟨lab, hl⟩
def g_e (n a : Nat) : Int32 := if a < n then nI a else -1
theorem k_ring9 (X : Sx) (d : Nat) (I : Ii) (T : Tt) (r : Nat → Int32) (n m : Nat) (lab : Nat → Nat) (h : k_H27 I r n m) (hl : g_lab r n lab) (v1 : Int32) : ∀ f k s a, k + f = 10 → s < 2 ^ n → a ≤ n → c_X11_ring_0_9 X (d + 1) v1 (nI s) (g_e n a) (nI k) I T = z_r (nI (g_go lab n f (s, a)).1) I T
  | 0, k, s, a, hk, hs, ha => by
    rw [e_X11_ring_0_9]
    simp (disch := omega) only [e_X11_ring_0_31, q_bd_l, z_ltT, z_ltF, z_eqT, z_eqF, z_ltlT, z_ltlF, z_lltT, z_lltF, z_eqlT, z_eqlF, z_in, z_k7, z_cl, z_lneg, z_llT, z_llF, z_s1, z_nI_cl, z_nlt0, z_ne_m1, z_b0, z_b1, z_la, z_al, z_lm, z_ml, z_nm, nI_add, pk_mul, ↓reduceIte, not_true_eq_false, not_false_eq_true, true_or, or_true, false_or, or_false, true_and, and_true, and_false, false_and, Classical.not_not, Nat.add_zero, z_01, z_em, z_bit_p, Nat.not_le, Nat.not_lt, reduceCtorEq, if_true, if_false]
    rfl
  | f + 1, k, s, a, hk, hs, ha => by
    have hn := h.1.2.1
    have n3 := k_n3 h
    rw [e_X11_ring_0_9]
    by_cases c : a < n
    · have c5 : I 31 a = g_e n (lab a) := (h.2.2.1.2.2.2.2.2.2.2.1 a c).trans (hl a c).2
      have hp : 2 ^ a < 2 ^ n := Nat.pow_lt_pow_right (by decide) c
      have ih := k_ring9 X d I T r n m lab h hl v1 f (k + 1) (s ||| 2 ^ a) (lab a) (by omega) (Nat.or_lt_two_pow hs hp) (hl a c).1
      have e : g_st lab n (s, a) = (s ||| 2 ^ a, lab a) := by unfold g_st; rw [if_pos c]
      have ea : g_e n a = nI a := if_pos c
      rw [g_go_s, e, ← ih, ea]
      simp (disch := omega) only [e_X9_hasJar_3, e_X11_ring_0_16, k_X11_ring_0_16, n3, c5, z_shl1, z_nor, q_bd_l, z_ltT, z_ltF, z_eqT, z_eqF, z_ltlT, z_ltlF, z_lltT, z_lltF, z_eqlT, z_eqlF, z_in, z_k7, z_cl, z_lneg, z_llT, z_llF, z_s1, z_nI_cl, z_nlt0, z_ne_m1, z_b0, z_b1, z_la, z_al, z_lm, z_ml, z_nm, nI_add, pk_mul, ↓reduceIte, not_true_eq_false, not_false_eq_true, true_or, or_true, false_or, or_false, true_and, and_true, and_false, false_and, Classical.not_not, Nat.add_zero, z_01, z_em, z_bit_p, Nat.not_le, Nat.not_lt, reduceCtorEq, if_true, if_false]
    · have ea : g_e n a = -1 := if_neg c
      have em : (-1 : Int32) < 0 := by decide
      rw [g_go_e lab n (s, a) c, ea]
      simp (disch := omega) only [e_X9_hasJar_3, e_X9_hasJar_3_8, e_X11_ring_0_16, k_X11_ring_0_16, e_X11_ring_0_31, em, q_bd_l, z_ltT, z_ltF, z_eqT, z_eqF, z_ltlT, z_ltlF, z_lltT, z_lltF, z_eqlT, z_eqlF, z_in, z_k7, z_cl, z_lneg, z_llT, z_llF, z_s1, z_nI_cl, z_nlt0, z_ne_m1, z_b0, z_b1, z_la, z_al, z_lm, z_ml, z_nm, nI_add, pk_mul, ↓reduceIte, not_true_eq_false, not_false_eq_true, true_or, or_true, false_or, or_false, true_and, and_true, and_false, false_and, Classical.not_not, Nat.add_zero, z_01, z_em, z_bit_p, Nat.not_le, Nat.not_lt, reduceCtorEq, if_true, if_false]
theorem k_Xring1 (X : Sx) (d : Nat) (I : Ii) (T : Tt) (r : Nat → Int32) (n m j : Nat) (lab : Nat → Nat) (h : k_H27 I r n m) (hl : g_lab r n lab) (hj : j < n) : c_X11_ring_0 X (d + 12) (nI j) I T = z_r (nI (g_go lab n 10 (0, j)).1) I T := by
  have g := k_ring9 X (d + 10) I T r n m lab h hl (nI j) 10 0 0 j (by omega) (Nat.two_pow_pos n) (by omega)
  have ea : g_e n j = nI j := if_pos hj
  rw [ea] at g
  rw [e_X11_ring_0, k_needJar1 X _ I T n j (k_n3 h) h.1.2.1 hj]
  simp (disch := omega) only [e_X11_ring_0_3, k_X11_ring_0_3, q_bd_l, z_ltT, z_ltF, z_eqT, z_eqF, z_ltlT, z_ltlF, z_lltT, z_lltF, z_eqlT, z_eqlF, z_in, z_k7, z_cl, z_lneg, z_llT, z_llF, z_s1, z_nI_cl, z_nlt0, z_ne_m1, z_b0, z_b1, z_la, z_al, z_lm, z_ml, z_nm, nI_add, pk_mul, ↓reduceIte, not_true_eq_false, not_false_eq_true, true_or, or_true, false_or, or_false, true_and, and_true, and_false, false_and, Classical.not_not, Nat.add_zero, z_01, z_em, z_bit_p, Nat.not_le, Nat.not_lt, reduceCtorEq, if_true, if_false]
  exact g
theorem k_Xring0 (X : Sx) (d : Nat) (I : Ii) (T : Tt) (n : Nat) (v : Int32) (h3 : I 3 0 = nI n) (hv : z_no v n) : c_X11_ring_0 X (d + 12) v I T = z_x 2 I T := by
  rw [e_X11_ring_0, k_needJar0 X _ v I T n h3 hv, z_x_bd]
theorem l_ring18 (X : Sx) (d : Nat) (I : Ii) (T : Tt) (n : Nat) (hn : n ≤ 10) (lab : Nat → Nat) (hl : g_lab (I 140) n lab) (v1 : Int32) : ∀ f s a, n ≤ p_c (fun i => s.testBit i) n + f → s < 2 ^ n → a ≤ n → g_cl lab n s a → c_X12_ring_139_18 X (d + 1) v1 (nI s) (g_e n a) I T = z_r (nI (g_go lab n f (s, a)).1) I T := by
  have h2n := z_2n hn
  intro f
  induction f with
  | zero =>
    intro s a hf hs ha hc
    rw [e_X12_ring_139_18]
    by_cases c : a < n
    · have hb : s.testBit a = true := by
        cases hq : s.testBit a with
        | true => rfl
        | false => have := p_c_lt s a hq n c; omega
      have ea : g_e n a = nI a := if_pos c
      have zb : z_bit (nI s) a = true := by rw [z_bit_nI s a (by omega) (by omega)]; exact hb
      rw [ea]
      simp (disch := omega) only [e_X12_ring_139_4, k_X12_ring_139_4, e_X12_ring_139_8, e_X12_ring_139_24, k_X12_ring_139_24, e_X12_ring_139_35, k_X12_ring_139_35, e_X12_ring_139_37, l_isOf, zb, q_bd_l, z_ltT, z_ltF, z_eqT, z_eqF, z_ltlT, z_ltlF, z_lltT, z_lltF, z_eqlT, z_eqlF, z_in, z_k7, z_cl, z_lneg, z_llT, z_llF, z_s1, z_nI_cl, z_nlt0, z_ne_m1, z_b0, z_b1, z_la, z_al, z_lm, z_ml, z_nm, nI_add, pk_mul, ↓reduceIte, not_true_eq_false, not_false_eq_true, true_or, or_true, false_or, or_false, true_and, and_true, and_false, false_and, Classical.not_not, Nat.add_zero, z_01, z_em, z_bit_p, Nat.not_le, Nat.not_lt, reduceCtorEq, if_true, if_false]
      rfl
    · have ea : g_e n a = -1 := if_neg c
      rw [ea]
      simp (disch := omega) only [e_X12_ring_139_4, k_X12_ring_139_4, e_X12_ring_139_8, e_X12_ring_139_24, k_X12_ring_139_24, e_X12_ring_139_35, k_X12_ring_139_35, e_X12_ring_139_37, q_bd_l, z_ltT, z_ltF, z_eqT, z_eqF, z_ltlT, z_ltlF, z_lltT, z_lltF, z_eqlT, z_eqlF, z_in, z_k7, z_cl, z_lneg, z_llT, z_llF, z_s1, z_nI_cl, z_nlt0, z_ne_m1, z_b0, z_b1, z_la, z_al, z_lm, z_ml, z_nm, nI_add, pk_mul, ↓reduceIte, not_true_eq_false, not_false_eq_true, true_or, or_true, false_or, or_false, true_and, and_true, and_false, false_and, Classical.not_not, Nat.add_zero, z_01, z_em, z_bit_p, Nat.not_le, Nat.not_lt, reduceCtorEq, if_true, if_false]
      rfl
  | succ f ih =>
    intro s a hf hs ha hc
    rw [e_X12_ring_139_18]
    by_cases c : a < n
    · have ea : g_e n a = nI a := if_pos c
      cases hq : s.testBit a with
      | true =>
        have zb : z_bit (nI s) a = true := by rw [z_bit_nI s a (by omega) (by omega)]; exact hq
        rw [g_go_c lab n s (f + 1) a hc (fun _ => hq), ea]
        simp (disch := omega) only [e_X12_ring_139_4, k_X12_ring_139_4, e_X12_ring_139_8, e_X12_ring_139_24, k_X12_ring_139_24, e_X12_ring_139_35, k_X12_ring_139_35, e_X12_ring_139_37, l_isOf, zb, q_bd_l, z_ltT, z_ltF, z_eqT, z_eqF, z_ltlT, z_ltlF, z_lltT, z_lltF, z_eqlT, z_eqlF, z_in, z_k7, z_cl, z_lneg, z_llT, z_llF, z_s1, z_nI_cl, z_nlt0, z_ne_m1, z_b0, z_b1, z_la, z_al, z_lm, z_ml, z_nm, nI_add, pk_mul, ↓reduceIte, not_true_eq_false, not_false_eq_true, true_or, or_true, false_or, or_false, true_and, and_true, and_false, false_and, Classical.not_not, Nat.add_zero, z_01, z_em, z_bit_p, Nat.not_le, Nat.not_lt, reduceCtorEq, if_true, if_false]
      | false =>
        have zb : ¬ z_bit (nI s) a = true := by rw [z_bit_nI s a (by omega) (by omega), hq]; decide
        have c5 : I 140 (12 + 13 * a + 5) = g_e n (lab a) := (hl a c).2
        have hp : 2 ^ a < 2 ^ n := Nat.pow_lt_pow_right (by decide) c
        have pc := p_c_set s a hq n
        rw [if_pos c] at pc
        have i1 := ih (s ||| 2 ^ a) (lab a) (by omega) (Nat.or_lt_two_pow hs hp) (hl a c).1 (g_cl_s lab n s a hc c)
        have e : g_st lab n (s, a) = (s ||| 2 ^ a, lab a) := by unfold g_st; rw [if_pos c]
        rw [g_go_s, e, ← i1, ea]
        simp (disch := omega) only [e_X12_ring_139_4, k_X12_ring_139_4, e_X12_ring_139_8, e_X12_ring_139_24, k_X12_ring_139_24, e_X12_ring_139_35, k_X12_ring_139_35, e_X12_ring_139_37, l_isOf, zb, l_of, c5, z_shl1, z_nor, q_bd_l, z_ltT, z_ltF, z_eqT, z_eqF, z_ltlT, z_ltlF, z_lltT, z_lltF, z_eqlT, z_eqlF, z_in, z_k7, z_cl, z_lneg, z_llT, z_llF, z_s1, z_nI_cl, z_nlt0, z_ne_m1, z_b0, z_b1, z_la, z_al, z_lm, z_ml, z_nm, nI_add, pk_mul, ↓reduceIte, not_true_eq_false, not_false_eq_true, true_or, or_true, false_or, or_false, true_and, and_true, and_false, false_and, Classical.not_not, Nat.add_zero, z_01, z_em, z_bit_p, Nat.not_le, Nat.not_lt, reduceCtorEq, if_true, if_false]
    · have ea : g_e n a = -1 := if_neg c
      rw [g_go_e lab n (s, a) c, ea]
      simp (disch := omega) only [e_X12_ring_139_4, k_X12_ring_139_4, e_X12_ring_139_8, e_X12_ring_139_24, k_X12_ring_139_24, e_X12_ring_139_35, k_X12_ring_139_35, e_X12_ring_139_37, q_bd_l, z_ltT, z_ltF, z_eqT, z_eqF, z_ltlT, z_ltlF, z_lltT, z_lltF, z_eqlT, z_eqlF, z_in, z_k7, z_cl, z_lneg, z_llT, z_llF, z_s1, z_nI_cl, z_nlt0, z_ne_m1, z_b0, z_b1, z_la, z_al, z_lm, z_ml, z_nm, nI_add, pk_mul, ↓reduceIte, not_true_eq_false, not_false_eq_true, true_or, or_true, false_or, or_false, true_and, and_true, and_false, false_and, Classical.not_not, Nat.add_zero, z_01, z_em, z_bit_p, Nat.not_le, Nat.not_lt, reduceCtorEq, if_true, if_false]
theorem l_ring1 (X : Sx) (d : Nat) (I : Ii) (T : Tt) (n j : Nat) (lab : Nat → Nat) (h3 : I 140 3 = nI n) (hn : n ≤ 10) (hl : g_lab (I 140) n lab) (hj : j < n) : c_X12_ring_139 X (d + 4) (nI j) I T = z_r (nI (g_go lab n 10 (0, j)).1) (q_w I 139 0 0) T := by
  have e : (q_w I 139 0 0) 140 = I 140 := z_w_a _ _ _ _ _ (by decide)
  have g := l_ring18 X (d + 2) (q_w I 139 0 0) T n hn lab (by rw [e]; exact hl) (nI j) 10 0 j (by omega) (Nat.two_pow_pos n) (by omega) (fun x hx hs => by rw [Nat.zero_testBit] at hs; cases hs)
  have ea : g_e n j = nI j := if_pos hj
  rw [ea] at g
  rw [e_X12_ring_139, l_jar1 X _ I T n j h3 hn hj]
  simp (disch := omega) only [e_X12_ring_139_4, k_X12_ring_139_4, e_X12_ring_139_8, e_X12_ring_139_24, k_X12_ring_139_24, e_X12_ring_139_35, k_X12_ring_139_35, e_X12_ring_139_37, q_bd_l, z_ltT, z_ltF, z_eqT, z_eqF, z_ltlT, z_ltlF, z_lltT, z_lltF, z_eqlT, z_eqlF, z_in, z_k7, z_cl, z_lneg, z_llT, z_llF, z_s1, z_nI_cl, z_nlt0, z_ne_m1, z_b0, z_b1, z_la, z_al, z_lm, z_ml, z_nm, nI_add, pk_mul, ↓reduceIte, not_true_eq_false, not_false_eq_true, true_or, or_true, false_or, or_false, true_and, and_true, and_false, false_and, Classical.not_not, Nat.add_zero, z_01, z_em, z_bit_p, Nat.not_le, Nat.not_lt, reduceCtorEq, if_true, if_false]
  exact g
theorem l_ring0 (X : Sx) (d : Nat) (I : Ii) (T : Tt) (n : Nat) (v : Int32) (h3 : I 140 3 = nI n) (hn : n ≤ 10) (hv : z_no v n) : c_X12_ring_139 X (d + 4) v I T = z_r 0 (q_w I 139 0 1) T := by
  rw [e_X12_ring_139, l_jar0 X _ v I T n h3 hn hv]
  simp (disch := omega) only [e_X12_ring_139_4, k_X12_ring_139_4, e_X12_ring_139_8, e_X12_ring_139_24, k_X12_ring_139_24, e_X12_ring_139_35, k_X12_ring_139_35, e_X12_ring_139_37, q_bd_l, z_ltT, z_ltF, z_eqT, z_eqF, z_ltlT, z_ltlF, z_lltT, z_lltF, z_eqlT, z_eqlF, z_in, z_k7, z_cl, z_lneg, z_llT, z_llF, z_s1, z_nI_cl, z_nlt0, z_ne_m1, z_b0, z_b1, z_la, z_al, z_lm, z_ml, z_nm, nI_add, pk_mul, ↓reduceIte, not_true_eq_false, not_false_eq_true, true_or, or_true, false_or, or_false, true_and, and_true, and_false, false_and, Classical.not_not, Nat.add_zero, z_01, z_em, z_bit_p, Nat.not_le, Nat.not_lt, reduceCtorEq, if_true, if_false]
