/-! ===== THE CLASS: its tape ===== -/
def z_by (b : Nat) : Int32 := (nI b).toInt8.toInt32
theorem z_by_1 : ∀ b, b < 256 → (z_by b &&& 255) = nI b := by decide +kernel
theorem z_by_32 : ∀ b, b < 256 → (z_by b = 32 ↔ t_blk b = true) := by decide +kernel
theorem z_by_let : ∀ b, b < 256 → (t_let b = true ↔ ¬ z_by b < 97 ∧ ¬ 122 < z_by b) := by decide +kernel
theorem z_by_dig : ∀ b, b < 256 → (t_dig b = true ↔ ¬ z_by b < 48 ∧ ¬ 57 < z_by b) := by decide +kernel
theorem z_by_n : ∀ b, b < 128 → z_by b = nI b := by decide +kernel
def z_Ta (I : Ii) (B : Nat → Nat) (n : Nat) : Prop := n ≤ 400 ∧ I 1 1 = nI n ∧ ∀ k, k < n → B k < 256 ∧ I 2 k = z_by (B k)
def m_ta (a k : Nat) : Bool := a == 1 && (Nat.ble 2 k && Nat.ble k 6)
theorem z_Ta_fr {I J : Ii} {B : Nat → Nat} {n : Nat} (h : z_Ta I B n) (hf : z_fr m_ta I J) : z_Ta J B n := by
  refine ⟨h.1, (hf 1 1 rfl).trans h.2.1, fun k hk => ⟨(h.2.2 k hk).1, (hf 2 k rfl).trans (h.2.2 k hk).2⟩⟩
theorem k_byteAt (X : Sx) (d : Nat) (I : Ii) (T : Tt) {B : Nat → Nat} {n : Nat} (h : z_Ta I B n) (k : Nat) (hk : k < n) : c_X10_byteAt_1 X (d + 1) (nI k) I T = z_r (nI (B k)) I T := by
  have h1 := h.1
  have h2 := h.2.1
  obtain ⟨h3, h4⟩ := h.2.2 k hk
  rw [e_X10_byteAt_1]
  simp (disch := omega) only [h2, h4, z_by_1 _ h3, q_bd_l, z_ltT, z_ltF, z_eqT, z_eqF, z_ltlT, z_ltlF, z_lltT, z_lltF, z_eqlT, z_eqlF, z_in, z_k7, z_cl, z_lneg, z_llT, z_llF, z_s1, z_nI_cl, z_nlt0, z_ne_m1, z_b0, z_b1, z_la, z_al, z_lm, z_ml, z_nm, nI_add, pk_mul, ↓reduceIte, not_true_eq_false, not_false_eq_true, true_or, or_true, false_or, or_false, true_and, and_true, and_false, false_and, Classical.not_not, Nat.add_zero, z_01, z_em, z_bit_p, Nat.not_le, Nat.not_lt, reduceCtorEq, if_true, if_false]
theorem k_byteAt0 (X : Sx) (d : Nat) (I : Ii) (T : Tt) {B : Nat → Nat} {n : Nat} (h : z_Ta I B n) (v : Int32) (hv : v < 0 ∨ ¬ v < nI n) : c_X10_byteAt_1 X (d + 1) v I T = z_r (-1) I T := by
  have h2 := h.2.1
  rw [e_X10_byteAt_1]
  by_cases h3 : v < 0
  · simp (disch := omega) only [e_X10_byteAt_1_13, h2, h3, q_bd_l, z_ltT, z_ltF, z_eqT, z_eqF, z_ltlT, z_ltlF, z_lltT, z_lltF, z_eqlT, z_eqlF, z_in, z_k7, z_cl, z_lneg, z_llT, z_llF, z_s1, z_nI_cl, z_nlt0, z_ne_m1, z_b0, z_b1, z_la, z_al, z_lm, z_ml, z_nm, nI_add, pk_mul, ↓reduceIte, not_true_eq_false, not_false_eq_true, true_or, or_true, false_or, or_false, true_and, and_true, and_false, false_and, Classical.not_not, Nat.add_zero, z_01, z_em, z_bit_p, Nat.not_le, Nat.not_lt, reduceCtorEq, if_true, if_false]
  · have h4 : ¬ v < nI n := by rcases hv with h5 | h5; exact absurd h5 h3; exact h5
    simp (disch := omega) only [e_X10_byteAt_1_13, h2, h3, h4, q_bd_l, z_ltT, z_ltF, z_eqT, z_eqF, z_ltlT, z_ltlF, z_lltT, z_lltF, z_eqlT, z_eqlF, z_in, z_k7, z_cl, z_lneg, z_llT, z_llF, z_s1, z_nI_cl, z_nlt0, z_ne_m1, z_b0, z_b1, z_la, z_al, z_lm, z_ml, z_nm, nI_add, pk_mul, ↓reduceIte, not_true_eq_false, not_false_eq_true, true_or, or_true, false_or, or_false, true_and, and_true, and_false, false_and, Classical.not_not, Nat.add_zero, z_01, z_em, z_bit_p, Nat.not_le, Nat.not_lt, reduceCtorEq, if_true, if_false]
theorem k_st4 (X : Sx) (d : Nat) (T : Tt) {B : Nat → Nat} {n : Nat} : ∀ m q (J : Ii), q + m = n → z_Ta J B n → J 1 2 = nI q → ∃ K, c_X10_step_1_4 X d J T = c_X10_step_1_23 X d K T ∧ z_fr (fun a k => a == 1 && k == 2) J K ∧ K 1 2 = nI (t_sk B n q)
  | 0, q, J, hm, h, h2 => by
    have h1 := h.1
    have h3 := h.2.1
    refine ⟨J, ?_, z_fr_r _ _, ?_⟩
    · rw [e_X10_step_1_4]
      simp (disch := omega) only [h2, h3, q_bd_l, z_ltT, z_ltF, z_eqT, z_eqF, z_ltlT, z_ltlF, z_lltT, z_lltF, z_eqlT, z_eqlF, z_in, z_k7, z_cl, z_lneg, z_llT, z_llF, z_s1, z_nI_cl, z_nlt0, z_ne_m1, z_b0, z_b1, z_la, z_al, z_lm, z_ml, z_nm, nI_add, pk_mul, ↓reduceIte, not_true_eq_false, not_false_eq_true, true_or, or_true, false_or, or_false, true_and, and_true, and_false, false_and, Classical.not_not, Nat.add_zero, z_01, z_em, z_bit_p, Nat.not_le, Nat.not_lt, reduceCtorEq, if_true, if_false]
    · unfold t_sk; rw [t_scan_end (by omega)]; exact h2
  | m + 1, q, J, hm, h, h2 => by
    have h1 := h.1
    have h3 := h.2.1
    obtain ⟨h4, h5⟩ := h.2.2 q (by omega)
    rw [e_X10_step_1_4]
    by_cases hb : t_blk (B q) = true
    · have hb2 : z_by (B q) = 32 := (z_by_32 _ h4).mpr hb
      have f : z_fr m_ta J (q_w J 1 2 (nI (q + 1))) := z_fr_w (z_fr_r _ _) 1 2 _ rfl
      obtain ⟨K, k1, k2, k3⟩ := k_st4 X d T m (q + 1) (q_w J 1 2 (nI (q + 1))) (by omega) (z_Ta_fr h f) (z_w_s _ _ _ _)
      refine ⟨K, ?_, z_fr_t (z_fr_w (z_fr_r _ _) 1 2 _ rfl) k2, ?_⟩
      · rw [← k1]
        simp (disch := omega) only [h2, h3, h5, hb2, q_bd_l, z_ltT, z_ltF, z_eqT, z_eqF, z_ltlT, z_ltlF, z_lltT, z_lltF, z_eqlT, z_eqlF, z_in, z_k7, z_cl, z_lneg, z_llT, z_llF, z_s1, z_nI_cl, z_nlt0, z_ne_m1, z_b0, z_b1, z_la, z_al, z_lm, z_ml, z_nm, nI_add, pk_mul, ↓reduceIte, not_true_eq_false, not_false_eq_true, true_or, or_true, false_or, or_false, true_and, and_true, and_false, false_and, Classical.not_not, Nat.add_zero, z_01, z_em, z_bit_p, Nat.not_le, Nat.not_lt, reduceCtorEq, if_true, if_false]
      · unfold t_sk; rw [t_scan_y (by omega) hb]; exact k3
    · have hb2 : ¬ z_by (B q) = 32 := fun e => hb ((z_by_32 _ h4).mp e)
      refine ⟨J, ?_, z_fr_r _ _, ?_⟩
      · simp (disch := omega) only [h2, h3, h5, hb2, q_bd_l, z_ltT, z_ltF, z_eqT, z_eqF, z_ltlT, z_ltlF, z_lltT, z_lltF, z_eqlT, z_eqlF, z_in, z_k7, z_cl, z_lneg, z_llT, z_llF, z_s1, z_nI_cl, z_nlt0, z_ne_m1, z_b0, z_b1, z_la, z_al, z_lm, z_ml, z_nm, nI_add, pk_mul, ↓reduceIte, not_true_eq_false, not_false_eq_true, true_or, or_true, false_or, or_false, true_and, and_true, and_false, false_and, Classical.not_not, Nat.add_zero, z_01, z_em, z_bit_p, Nat.not_le, Nat.not_lt, reduceCtorEq, if_true, if_false]
      · unfold t_sk; rw [t_scan_n (fun a => hb a.2)]; exact h2
theorem k_st56 (X : Sx) (d : Nat) (T : Tt) {B : Nat → Nat} {n : Nat} : ∀ m q (J : Ii), q + m = n → z_Ta J B n → J 1 3 = nI q → ∃ K, c_X10_step_1_56 X d J T = z_v K T ∧ z_fr (fun a k => a == 1 && k == 3) J K ∧ K 1 3 = nI (t_scan t_let B n q)
  | 0, q, J, hm, h, h2 => by
    have h1 := h.1
    have h3 := h.2.1
    refine ⟨J, ?_, z_fr_r _ _, ?_⟩
    · rw [e_X10_step_1_56]
      simp (disch := omega) only [h2, h3, q_bd_l, z_ltT, z_ltF, z_eqT, z_eqF, z_ltlT, z_ltlF, z_lltT, z_lltF, z_eqlT, z_eqlF, z_in, z_k7, z_cl, z_lneg, z_llT, z_llF, z_s1, z_nI_cl, z_nlt0, z_ne_m1, z_b0, z_b1, z_la, z_al, z_lm, z_ml, z_nm, nI_add, pk_mul, ↓reduceIte, not_true_eq_false, not_false_eq_true, true_or, or_true, false_or, or_false, true_and, and_true, and_false, false_and, Classical.not_not, Nat.add_zero, z_01, z_em, z_bit_p, Nat.not_le, Nat.not_lt, reduceCtorEq, if_true, if_false]
    · rw [t_scan_end (by omega)]; exact h2
  | m + 1, q, J, hm, h, h2 => by
    have h1 := h.1
    have h3 := h.2.1
    obtain ⟨h4, h5⟩ := h.2.2 q (by omega)
    rw [e_X10_step_1_56]
    by_cases hb : t_let (B q) = true
    · obtain ⟨c1, c2⟩ := (z_by_let _ h4).mp hb
      have f : z_fr m_ta J (q_w J 1 3 (nI (q + 1))) := z_fr_w (z_fr_r _ _) 1 3 _ rfl
      obtain ⟨K, k1, k2, k3⟩ := k_st56 X d T m (q + 1) (q_w J 1 3 (nI (q + 1))) (by omega) (z_Ta_fr h f) (z_w_s _ _ _ _)
      refine ⟨K, ?_, z_fr_t (z_fr_w (z_fr_r _ _) 1 3 _ rfl) k2, ?_⟩
      · rw [← k1]
        simp (disch := omega) only [h2, h3, h5, c1, c2, q_bd_l, z_ltT, z_ltF, z_eqT, z_eqF, z_ltlT, z_ltlF, z_lltT, z_lltF, z_eqlT, z_eqlF, z_in, z_k7, z_cl, z_lneg, z_llT, z_llF, z_s1, z_nI_cl, z_nlt0, z_ne_m1, z_b0, z_b1, z_la, z_al, z_lm, z_ml, z_nm, nI_add, pk_mul, ↓reduceIte, not_true_eq_false, not_false_eq_true, true_or, or_true, false_or, or_false, true_and, and_true, and_false, false_and, Classical.not_not, Nat.add_zero, z_01, z_em, z_bit_p, Nat.not_le, Nat.not_lt, reduceCtorEq, if_true, if_false]
      · rw [t_scan_y (by omega) hb]; exact k3
    · refine ⟨J, ?_, z_fr_r _ _, ?_⟩
      · by_cases c1 : z_by (B q) < 97
        · simp (disch := omega) only [h2, h3, h5, c1, q_bd_l, z_ltT, z_ltF, z_eqT, z_eqF, z_ltlT, z_ltlF, z_lltT, z_lltF, z_eqlT, z_eqlF, z_in, z_k7, z_cl, z_lneg, z_llT, z_llF, z_s1, z_nI_cl, z_nlt0, z_ne_m1, z_b0, z_b1, z_la, z_al, z_lm, z_ml, z_nm, nI_add, pk_mul, ↓reduceIte, not_true_eq_false, not_false_eq_true, true_or, or_true, false_or, or_false, true_and, and_true, and_false, false_and, Classical.not_not, Nat.add_zero, z_01, z_em, z_bit_p, Nat.not_le, Nat.not_lt, reduceCtorEq, if_true, if_false]
        · have c2 : 122 < z_by (B q) := Classical.byContradiction (fun c2 => hb ((z_by_let _ h4).mpr ⟨c1, c2⟩))
          simp (disch := omega) only [h2, h3, h5, c1, c2, q_bd_l, z_ltT, z_ltF, z_eqT, z_eqF, z_ltlT, z_ltlF, z_lltT, z_lltF, z_eqlT, z_eqlF, z_in, z_k7, z_cl, z_lneg, z_llT, z_llF, z_s1, z_nI_cl, z_nlt0, z_ne_m1, z_b0, z_b1, z_la, z_al, z_lm, z_ml, z_nm, nI_add, pk_mul, ↓reduceIte, not_true_eq_false, not_false_eq_true, true_or, or_true, false_or, or_false, true_and, and_true, and_false, false_and, Classical.not_not, Nat.add_zero, z_01, z_em, z_bit_p, Nat.not_le, Nat.not_lt, reduceCtorEq, if_true, if_false]
      · rw [t_scan_n (fun a => hb a.2)]; exact h2
/-- the value that the tape makes of figures: it grows no more once it is 10000 or greater -/
def t_vl (B : Nat → Nat) (p : Nat) : Nat → Nat
  | 0 => 0
  | m + 1 => if t_vl B p m < 10000 then 10 * t_vl B p m + B (p + m) - 48 else t_vl B p m
theorem t_vl_p (B : Nat → Nat) (p : Nat) : ∀ m, t_vl B p m = t_num B p m ∨ (10000 ≤ t_vl B p m ∧ t_vl B p m ≤ t_num B p m)
  | 0 => Or.inl rfl
  | m + 1 => by
    have ih := t_vl_p B p m
    show (if t_vl B p m < 10000 then 10 * t_vl B p m + B (p + m) - 48 else t_vl B p m) = 10 * t_num B p m + B (p + m) - 48 ∨ (10000 ≤ (if t_vl B p m < 10000 then 10 * t_vl B p m + B (p + m) - 48 else t_vl B p m) ∧ (if t_vl B p m < 10000 then 10 * t_vl B p m + B (p + m) - 48 else t_vl B p m) ≤ 10 * t_num B p m + B (p + m) - 48)
    by_cases c : t_vl B p m < 10000
    · rw [if_pos c]; rcases ih with a | a
      · rw [a]; exact Or.inl rfl
      · omega
    · rw [if_neg c]; right; rcases ih with a | a <;> omega
theorem t_vl_e {B : Nat → Nat} {p m : Nat} (h : t_num B p m < 10000) : t_vl B p m = t_num B p m := by
  rcases t_vl_p B p m with a | a
  · exact a
  · omega
theorem t_vl_lt (B : Nat → Nat) (p : Nat) : ∀ m, (∀ i, i < m → B (p + i) < 256) → t_vl B p m < 200000
  | 0, _ => by show 0 < 200000; omega
  | m + 1, h => by
    have ih := t_vl_lt B p m (fun i hi => h i (by omega))
    have hb := h m (by omega)
    show (if t_vl B p m < 10000 then 10 * t_vl B p m + B (p + m) - 48 else t_vl B p m) < 200000
    by_cases c : t_vl B p m < 10000
    · rw [if_pos c]; omega
    · rw [if_neg c]; exact ih
theorem k_st99 (X : Sx) (d : Nat) (T : Tt) {B : Nat → Nat} {n : Nat} (p : Nat) : ∀ m q (J : Ii), p ≤ q → q + m = n → z_Ta J B n → J 1 3 = nI q → J 1 5 = nI (t_vl B p (q - p)) → ∃ K, c_X10_step_1_99 X d J T = z_v K T ∧ z_fr (fun a k => a == 1 && (k == 3 || k == 5)) J K ∧ K 1 3 = nI (t_scan t_dig B n q) ∧ K 1 5 = nI (t_vl B p (t_scan t_dig B n q - p))
  | 0, q, J, hp, hm, h, h2, h6 => by
    have h1 := h.1
    have h3 := h.2.1
    refine ⟨J, ?_, z_fr_r _ _, ?_, ?_⟩
    · rw [e_X10_step_1_99]
      simp (disch := omega) only [h2, h3, q_bd_l, z_ltT, z_ltF, z_eqT, z_eqF, z_ltlT, z_ltlF, z_lltT, z_lltF, z_eqlT, z_eqlF, z_in, z_k7, z_cl, z_lneg, z_llT, z_llF, z_s1, z_nI_cl, z_nlt0, z_ne_m1, z_b0, z_b1, z_la, z_al, z_lm, z_ml, z_nm, nI_add, pk_mul, ↓reduceIte, not_true_eq_false, not_false_eq_true, true_or, or_true, false_or, or_false, true_and, and_true, and_false, false_and, Classical.not_not, Nat.add_zero, z_01, z_em, z_bit_p, Nat.not_le, Nat.not_lt, reduceCtorEq, if_true, if_false]
    · rw [t_scan_end (by omega)]; exact h2
    · rw [t_scan_end (by omega)]; exact h6
  | m + 1, q, J, hp, hm, h, h2, h6 => by
    have h1 := h.1
    have h3 := h.2.1
    obtain ⟨h4, h5⟩ := h.2.2 q (by omega)
    rw [e_X10_step_1_99]
    by_cases hb : t_dig (B q) = true
    · obtain ⟨c1, c2⟩ := (z_by_dig _ h4).mp hb
      have hb2 := hb
      rw [t_dig_p] at hb2
      have e0 : z_by (B q) = nI (B q) := z_by_n _ (by omega)
      have hx : t_vl B p (q - p) < 200000 := t_vl_lt B p (q - p) (fun i hi => (h.2.2 (p + i) (by omega)).1)
      have e1 : t_vl B p (q + 1 - p) = if t_vl B p (q - p) < 10000 then 10 * t_vl B p (q - p) + B q - 48 else t_vl B p (q - p) := by
        have a1 : q + 1 - p = (q - p) + 1 := by omega
        have a2 : p + (q - p) = q := by omega
        rw [a1]
        show (if t_vl B p (q - p) < 10000 then 10 * t_vl B p (q - p) + B (p + (q - p)) - 48 else t_vl B p (q - p)) = _
        rw [a2]
      have f : z_fr (fun a k => a == 1 && (k == 3 || k == 5)) J (q_w (q_w J 1 5 (nI (t_vl B p (q + 1 - p)))) 1 3 (nI (q + 1))) := z_fr_w (z_fr_w (z_fr_r _ _) 1 5 _ rfl) 1 3 _ rfl
      have f2 : z_fr m_ta J (q_w (q_w J 1 5 (nI (t_vl B p (q + 1 - p)))) 1 3 (nI (q + 1))) := z_fr_w (z_fr_w (z_fr_r _ _) 1 5 _ rfl) 1 3 _ rfl
      obtain ⟨K, k1, k2, k3, k4⟩ := k_st99 X d T p m (q + 1) (q_w (q_w J 1 5 (nI (t_vl B p (q + 1 - p)))) 1 3 (nI (q + 1))) (by omega) (by omega) (z_Ta_fr h f2) (z_w_s _ _ _ _) (by rw [z_w_k _ _ _ _ _ (by decide), z_w_s])
      refine ⟨K, ?_, z_fr_t f k2, ?_, ?_⟩
      · rw [← k1]
        rw [e0] at h5 c1 c2
        by_cases hv : t_vl B p (q - p) < 10000
        · have lt : nI (t_vl B p (q - p)) < 10000 := nI_lt (b := 10000) hv (by omega)
          have e2 : (10 : Int32) * nI (t_vl B p (q - p)) + nI (B q) - 48 = nI (t_vl B p (q + 1 - p)) := by
            rw [e1, if_pos hv, z_lm, nI_add]
            exact pk_sub (a := 10 * t_vl B p (q - p) + B q) (b := 48) (by omega)
          rw [← e2]
          simp (disch := omega) only [e_X10_step_1_138, h2, h3, h5, c1, c2, h6, lt, q_bd_l, z_ltT, z_ltF, z_eqT, z_eqF, z_ltlT, z_ltlF, z_lltT, z_lltF, z_eqlT, z_eqlF, z_in, z_k7, z_cl, z_lneg, z_llT, z_llF, z_s1, z_nI_cl, z_nlt0, z_ne_m1, z_b0, z_b1, z_la, z_al, z_lm, z_ml, z_nm, nI_add, pk_mul, ↓reduceIte, not_true_eq_false, not_false_eq_true, true_or, or_true, false_or, or_false, true_and, and_true, and_false, false_and, Classical.not_not, Nat.add_zero, z_01, z_em, z_bit_p, Nat.not_le, Nat.not_lt, reduceCtorEq, if_true, if_false]
        · have lt : ¬ nI (t_vl B p (q - p)) < 10000 := nI_nlt (a := t_vl B p (q - p)) (b := 10000) (by omega) (by omega)
          have e2 : nI (t_vl B p (q - p)) = nI (t_vl B p (q + 1 - p)) := by rw [e1, if_neg hv]
          rw [← e2]
          simp (disch := omega) only [e_X10_step_1_138, h2, h3, h5, c1, c2, h6, lt, q_bd_l, z_ltT, z_ltF, z_eqT, z_eqF, z_ltlT, z_ltlF, z_lltT, z_lltF, z_eqlT, z_eqlF, z_in, z_k7, z_cl, z_lneg, z_llT, z_llF, z_s1, z_nI_cl, z_nlt0, z_ne_m1, z_b0, z_b1, z_la, z_al, z_lm, z_ml, z_nm, nI_add, pk_mul, ↓reduceIte, not_true_eq_false, not_false_eq_true, true_or, or_true, false_or, or_false, true_and, and_true, and_false, false_and, Classical.not_not, Nat.add_zero, z_01, z_em, z_bit_p, Nat.not_le, Nat.not_lt, reduceCtorEq, if_true, if_false]
      · rw [t_scan_y (by omega) hb]; exact k3
      · rw [t_scan_y (by omega) hb]; exact k4
    · refine ⟨J, ?_, z_fr_r _ _, ?_, ?_⟩
      · by_cases c1 : z_by (B q) < 48
        · simp (disch := omega) only [h2, h3, h5, c1, q_bd_l, z_ltT, z_ltF, z_eqT, z_eqF, z_ltlT, z_ltlF, z_lltT, z_lltF, z_eqlT, z_eqlF, z_in, z_k7, z_cl, z_lneg, z_llT, z_llF, z_s1, z_nI_cl, z_nlt0, z_ne_m1, z_b0, z_b1, z_la, z_al, z_lm, z_ml, z_nm, nI_add, pk_mul, ↓reduceIte, not_true_eq_false, not_false_eq_true, true_or, or_true, false_or, or_false, true_and, and_true, and_false, false_and, Classical.not_not, Nat.add_zero, z_01, z_em, z_bit_p, Nat.not_le, Nat.not_lt, reduceCtorEq, if_true, if_false]
        · have c2 : 57 < z_by (B q) := Classical.byContradiction (fun c2 => hb ((z_by_dig _ h4).mpr ⟨c1, c2⟩))
          simp (disch := omega) only [h2, h3, h5, c1, c2, q_bd_l, z_ltT, z_ltF, z_eqT, z_eqF, z_ltlT, z_ltlF, z_lltT, z_lltF, z_eqlT, z_eqlF, z_in, z_k7, z_cl, z_lneg, z_llT, z_llF, z_s1, z_nI_cl, z_nlt0, z_ne_m1, z_b0, z_b1, z_la, z_al, z_lm, z_ml, z_nm, nI_add, pk_mul, ↓reduceIte, not_true_eq_false, not_false_eq_true, true_or, or_true, false_or, or_false, true_and, and_true, and_false, false_and, Classical.not_not, Nat.add_zero, z_01, z_em, z_bit_p, Nat.not_le, Nat.not_lt, reduceCtorEq, if_true, if_false]
      · rw [t_scan_n (fun a => hb a.2)]; exact h2
      · rw [t_scan_n (fun a => hb a.2)]; exact h6
/-- the tape stands at p -/
def z_Rd (I : Ii) (B : Nat → Nat) (n p : Nat) : Prop := z_Ta I B n ∧ t_at B n p ∧ I 1 2 = nI p ∧ I 1 3 = nI (t_end B n p) ∧ I 1 4 = (if n ≤ p then 0 else if t_let (B p) = true then 1 else if t_dig (B p) = true then 2 else 3) ∧ (p < n → t_dig (B p) = true → I 1 5 = nI (t_vl B p (t_nf B n p)))
theorem k_step10 (X : Sx) (d : Nat) (I : Ii) (T : Tt) {B : Nat → Nat} {n : Nat} (h : z_Ta I B n) (q : Nat) (hq : q ≤ n) (h3 : I 1 3 = nI q) : ∃ J, c_X10_step_1 X (d + 1) I T = z_v J T ∧ z_fr m_ta I J ∧ z_Rd J B n (t_sk B n q) ∧ J 1 6 = I 1 6 := by
  have f0 : z_fr m_ta I (q_w I 1 2 (I 1 3)) := z_fr_w (z_fr_r _ _) 1 2 _ rfl
  have h1 := h.1
  obtain ⟨K, k1, k2, k3, k6⟩ : ∃ K, c_X10_step_1_4 X d (q_w I 1 2 (I 1 3)) T = c_X10_step_1_23 X d K T ∧ z_fr m_ta I K ∧ K 1 2 = nI (t_sk B n q) ∧ K 1 6 = I 1 6 := by
    obtain ⟨K, k1, k2, k3⟩ := k_st4 X d T (n - q) q (q_w I 1 2 (I 1 3)) (by omega) (z_Ta_fr h f0) ((z_w_s _ _ _ _).trans h3)
    exact ⟨K, k1, z_fr_t f0 (z_fr_m k2 (fun a k e => by simp at e; simp [m_ta, e])), k3, (k2 1 6 rfl).trans (z_w_k _ _ _ _ _ (by decide))⟩
  have hK := z_Ta_fr h k2
  have hat : t_at B n (t_sk B n q) := t_at_sk hq
  have hp := hat.1
  generalize t_sk B n q = p at *
  have g1 := hK.2.1
  rw [e_X10_step_1, k1, e_X10_step_1_23]
  have fJ : z_fr m_ta I (q_w (q_w K 1 3 (nI p)) 1 5 0) := z_fr_w (z_fr_w k2 1 3 _ rfl) 1 5 _ rfl
  have tJ := z_Ta_fr h fJ
  have j6 : q_w (q_w K 1 3 (nI p)) 1 5 0 1 6 = I 1 6 := by rw [z_w_k _ _ _ _ _ (by decide), z_w_k _ _ _ _ _ (by decide)]; exact k6
  have j2 : q_w (q_w K 1 3 (nI p)) 1 5 0 1 2 = nI p := by rw [z_w_k _ _ _ _ _ (by decide), z_w_k _ _ _ _ _ (by decide)]; exact k3
  have j3 : q_w (q_w K 1 3 (nI p)) 1 5 0 1 3 = nI p := by rw [z_w_k _ _ _ _ _ (by decide), z_w_s]
  have j5 : q_w (q_w K 1 3 (nI p)) 1 5 0 1 5 = 0 := z_w_s _ _ _ _
  by_cases hn : n ≤ p
  · have fE : z_fr m_ta I (q_w (q_w (q_w K 1 3 (nI p)) 1 5 0) 1 4 0) := z_fr_w fJ 1 4 _ rfl
    have te : t_end B n p = p := by unfold t_end; rw [if_pos hn]
    refine ⟨_, ?_, fE, ⟨z_Ta_fr h fE, hat, by rw [z_w_k _ _ _ _ _ (by decide)]; exact j2, by rw [z_w_k _ _ _ _ _ (by decide), te]; exact j3, by rw [z_w_s, if_pos hn], fun a => by omega⟩, by rw [z_w_k _ _ _ _ _ (by decide)]; exact j6⟩
    simp (disch := omega) only [k3, g1, q_bd_l, z_ltT, z_ltF, z_eqT, z_eqF, z_ltlT, z_ltlF, z_lltT, z_lltF, z_eqlT, z_eqlF, z_in, z_k7, z_cl, z_lneg, z_llT, z_llF, z_s1, z_nI_cl, z_nlt0, z_ne_m1, z_b0, z_b1, z_la, z_al, z_lm, z_ml, z_nm, nI_add, pk_mul, ↓reduceIte, not_true_eq_false, not_false_eq_true, true_or, or_true, false_or, or_false, true_and, and_true, and_false, false_and, Classical.not_not, Nat.add_zero, z_01, z_em, z_bit_p, Nat.not_le, Nat.not_lt, reduceCtorEq, if_true, if_false]
  · obtain ⟨b1, b2⟩ := hK.2.2 p (by omega)
    generalize hJ : q_w (q_w K 1 3 (nI p)) 1 5 0 = J at *
    have jb : J 2 p = z_by (B p) := (tJ.2.2 p (by omega)).2
    have jn := tJ.2.1
    by_cases hl : t_let (B p) = true
    · obtain ⟨c1, c2⟩ := (z_by_let _ b1).mp hl
      have fE : z_fr m_ta I (q_w J 1 4 1) := z_fr_w fJ 1 4 _ rfl
      obtain ⟨L, l1, l2, l3⟩ := k_st56 X d T (n - p) p (q_w J 1 4 1) (by omega) (z_Ta_fr h fE) (by rw [z_w_k _ _ _ _ _ (by decide)]; exact j3)
      have te : t_end B n p = t_scan t_let B n p := by unfold t_end; rw [if_neg hn, if_pos hl]
      have fL : z_fr m_ta I L := z_fr_t fE (z_fr_m l2 (fun a k e => by simp at e; simp [m_ta, e]))
      refine ⟨L, ?_, fL, ⟨z_Ta_fr h fL, hat, ?_, by rw [te]; exact l3, ?_, fun _ e => ?_⟩, ?_⟩
      · rw [← l1]
        simp (disch := omega) only [k3, g1, b2, c1, c2, hJ, q_bd_l, z_ltT, z_ltF, z_eqT, z_eqF, z_ltlT, z_ltlF, z_lltT, z_lltF, z_eqlT, z_eqlF, z_in, z_k7, z_cl, z_lneg, z_llT, z_llF, z_s1, z_nI_cl, z_nlt0, z_ne_m1, z_b0, z_b1, z_la, z_al, z_lm, z_ml, z_nm, nI_add, pk_mul, ↓reduceIte, not_true_eq_false, not_false_eq_true, true_or, or_true, false_or, or_false, true_and, and_true, and_false, false_and, Classical.not_not, Nat.add_zero, z_01, z_em, z_bit_p, Nat.not_le, Nat.not_lt, reduceCtorEq, if_true, if_false]
      · rw [l2 1 2 rfl, z_w_k _ _ _ _ _ (by decide)]; exact j2
      · rw [l2 1 4 rfl, z_w_s, if_neg hn, if_pos hl]
      · rw [t_dig_p] at e; rw [t_let_p] at hl; omega
      · rw [l2 1 6 rfl, z_w_k _ _ _ _ _ (by decide)]; exact j6
    · have to82 : c_X10_step_1_23 X d K T = c_X10_step_1_82 X d J T := by
        rw [e_X10_step_1_23]
        by_cases c1 : z_by (B p) < 97
        · simp (disch := omega) only [k3, g1, b2, c1, hJ, q_bd_l, z_ltT, z_ltF, z_eqT, z_eqF, z_ltlT, z_ltlF, z_lltT, z_lltF, z_eqlT, z_eqlF, z_in, z_k7, z_cl, z_lneg, z_llT, z_llF, z_s1, z_nI_cl, z_nlt0, z_ne_m1, z_b0, z_b1, z_la, z_al, z_lm, z_ml, z_nm, nI_add, pk_mul, ↓reduceIte, not_true_eq_false, not_false_eq_true, true_or, or_true, false_or, or_false, true_and, and_true, and_false, false_and, Classical.not_not, Nat.add_zero, z_01, z_em, z_bit_p, Nat.not_le, Nat.not_lt, reduceCtorEq, if_true, if_false]
        · have c2 : 122 < z_by (B p) := Classical.byContradiction (fun c2 => hl ((z_by_let _ b1).mpr ⟨c1, c2⟩))
          simp (disch := omega) only [k3, g1, b2, c1, c2, hJ, q_bd_l, z_ltT, z_ltF, z_eqT, z_eqF, z_ltlT, z_ltlF, z_lltT, z_lltF, z_eqlT, z_eqlF, z_in, z_k7, z_cl, z_lneg, z_llT, z_llF, z_s1, z_nI_cl, z_nlt0, z_ne_m1, z_b0, z_b1, z_la, z_al, z_lm, z_ml, z_nm, nI_add, pk_mul, ↓reduceIte, not_true_eq_false, not_false_eq_true, true_or, or_true, false_or, or_false, true_and, and_true, and_false, false_and, Classical.not_not, Nat.add_zero, z_01, z_em, z_bit_p, Nat.not_le, Nat.not_lt, reduceCtorEq, if_true, if_false]
      rw [← e_X10_step_1_23, to82, e_X10_step_1_82]
      by_cases hd : t_dig (B p) = true
      · obtain ⟨c1, c2⟩ := (z_by_dig _ b1).mp hd
        have fE : z_fr m_ta I (q_w J 1 4 2) := z_fr_w fJ 1 4 _ rfl
        obtain ⟨L, l1, l2, l3, l4⟩ := k_st99 X d T p (n - p) p (q_w J 1 4 2) (Nat.le_refl _) (by omega) (z_Ta_fr h fE) (by rw [z_w_k _ _ _ _ _ (by decide)]; exact j3) (by rw [z_w_k _ _ _ _ _ (by decide), Nat.sub_self]; exact j5)
        have te : t_end B n p = t_scan t_dig B n p := by unfold t_end; rw [if_neg hn, if_neg hl, if_pos hd]
        have fL : z_fr m_ta I L := z_fr_t fE (z_fr_m l2 (fun a k e => by simp at e; rcases e with ⟨e1, e2 | e2⟩ <;> simp [m_ta, e1, e2]))
        refine ⟨L, ?_, fL, ⟨z_Ta_fr h fL, hat, ?_, by rw [te]; exact l3, ?_, fun _ _ => l4⟩, ?_⟩
        · rw [← l1]
          simp (disch := omega) only [j2, jb, c1, c2, q_bd_l, z_ltT, z_ltF, z_eqT, z_eqF, z_ltlT, z_ltlF, z_lltT, z_lltF, z_eqlT, z_eqlF, z_in, z_k7, z_cl, z_lneg, z_llT, z_llF, z_s1, z_nI_cl, z_nlt0, z_ne_m1, z_b0, z_b1, z_la, z_al, z_lm, z_ml, z_nm, nI_add, pk_mul, ↓reduceIte, not_true_eq_false, not_false_eq_true, true_or, or_true, false_or, or_false, true_and, and_true, and_false, false_and, Classical.not_not, Nat.add_zero, z_01, z_em, z_bit_p, Nat.not_le, Nat.not_lt, reduceCtorEq, if_true, if_false]
        · rw [l2 1 2 rfl, z_w_k _ _ _ _ _ (by decide)]; exact j2
        · rw [l2 1 4 rfl, z_w_s, if_neg hn, if_neg hl, if_pos hd]
        · rw [l2 1 6 rfl, z_w_k _ _ _ _ _ (by decide)]; exact j6
      · have fE : z_fr m_ta I (q_w (q_w J 1 4 3) 1 3 (nI (p + 1))) := z_fr_w (z_fr_w fJ 1 4 _ rfl) 1 3 _ rfl
        have te : t_end B n p = p + 1 := by unfold t_end; rw [if_neg hn, if_neg hl, if_neg hd]
        refine ⟨_, ?_, fE, ⟨z_Ta_fr h fE, hat, ?_, by rw [te]; exact z_w_s _ _ _ _, ?_, fun _ e => absurd e hd⟩, ?_⟩
        · by_cases c1 : z_by (B p) < 48
          · simp (disch := omega) only [e_X10_step_1_146, j2, j3, jb, c1, q_bd_l, z_ltT, z_ltF, z_eqT, z_eqF, z_ltlT, z_ltlF, z_lltT, z_lltF, z_eqlT, z_eqlF, z_in, z_k7, z_cl, z_lneg, z_llT, z_llF, z_s1, z_nI_cl, z_nlt0, z_ne_m1, z_b0, z_b1, z_la, z_al, z_lm, z_ml, z_nm, nI_add, pk_mul, ↓reduceIte, not_true_eq_false, not_false_eq_true, true_or, or_true, false_or, or_false, true_and, and_true, and_false, false_and, Classical.not_not, Nat.add_zero, z_01, z_em, z_bit_p, Nat.not_le, Nat.not_lt, reduceCtorEq, if_true, if_false]
          · have c2 : 57 < z_by (B p) := Classical.byContradiction (fun c2 => hd ((z_by_dig _ b1).mpr ⟨c1, c2⟩))
            simp (disch := omega) only [e_X10_step_1_146, j2, j3, jb, c1, c2, q_bd_l, z_ltT, z_ltF, z_eqT, z_eqF, z_ltlT, z_ltlF, z_lltT, z_lltF, z_eqlT, z_eqlF, z_in, z_k7, z_cl, z_lneg, z_llT, z_llF, z_s1, z_nI_cl, z_nlt0, z_ne_m1, z_b0, z_b1, z_la, z_al, z_lm, z_ml, z_nm, nI_add, pk_mul, ↓reduceIte, not_true_eq_false, not_false_eq_true, true_or, or_true, false_or, or_false, true_and, and_true, and_false, false_and, Classical.not_not, Nat.add_zero, z_01, z_em, z_bit_p, Nat.not_le, Nat.not_lt, reduceCtorEq, if_true, if_false]
        · rw [z_w_k _ _ _ _ _ (by decide), z_w_k _ _ _ _ _ (by decide)]; exact j2
        · rw [z_w_k _ _ _ _ _ (by decide), z_w_s, if_neg hn, if_neg hl, if_neg hd]
        · rw [z_w_k _ _ _ _ _ (by decide), z_w_k _ _ _ _ _ (by decide)]; exact j6
