/-! ===== THE CLASS: what stands on the tape ===== -/
theorem k_start (X : Sx) (d : Nat) (I : Ii) (T : Tt) {B : Nat → Nat} {n : Nat} (h : z_Ta I B n) : ∃ J, c_X10_start_1 X (d + 2) I T = z_v J T ∧ z_fr m_ta I J ∧ z_Rd J B n (t_sk B n 0) := by
  have f : z_fr m_ta I (q_w I 1 3 0) := z_fr_w (z_fr_r _ _) 1 3 _ rfl
  obtain ⟨J, j1, j2, j3, -⟩ := k_step10 X d (q_w I 1 3 0) T (z_Ta_fr h f) 0 (Nat.zero_le _) (z_w_s _ _ _ _)
  refine ⟨J, ?_, z_fr_t f j2, j3⟩
  rw [e_X10_start_1, j1]
  simp (disch := omega) only [e_X10_start_1_5, k_X10_start_1_5, q_bd_l, z_ltT, z_ltF, z_eqT, z_eqF, z_ltlT, z_ltlF, z_lltT, z_lltF, z_eqlT, z_eqlF, z_in, z_k7, z_cl, z_lneg, z_llT, z_llF, z_s1, z_nI_cl, z_nlt0, z_ne_m1, z_b0, z_b1, z_la, z_al, z_lm, z_ml, z_nm, nI_add, pk_mul, ↓reduceIte, not_true_eq_false, not_false_eq_true, true_or, or_true, false_or, or_false, true_and, and_true, and_false, false_and, Classical.not_not, Nat.add_zero, z_01, z_em, z_bit_p, Nat.not_le, Nat.not_lt, reduceCtorEq, if_true, if_false]
theorem k_stepR (X : Sx) (d : Nat) (I : Ii) (T : Tt) {B : Nat → Nat} {n p : Nat} (h : z_Rd I B n p) : ∃ J, c_X10_step_1 X (d + 1) I T = z_v J T ∧ z_fr m_ta I J ∧ z_Rd J B n (t_nx B n p) ∧ J 1 6 = I 1 6 := k_step10 X d I T h.1 (t_end B n p) (t_end_le h.2.1.1) h.2.2.2.1
theorem k_isAtEnd (X : Sx) (d : Nat) (I : Ii) (T : Tt) {B : Nat → Nat} {n p : Nat} (h : z_Rd I B n p) : c_X10_isAtEnd_1 X (d + 1) I T = z_r (z_b (n ≤ p)) I T := by
  have h4 := h.2.2.2.2.1
  rw [e_X10_isAtEnd_1, h4]
  unfold z_b
  by_cases hn : n ≤ p
  · simp (disch := omega) only [hn, q_bd_l, z_ltT, z_ltF, z_eqT, z_eqF, z_ltlT, z_ltlF, z_lltT, z_lltF, z_eqlT, z_eqlF, z_in, z_k7, z_cl, z_lneg, z_llT, z_llF, z_s1, z_nI_cl, z_nlt0, z_ne_m1, z_b0, z_b1, z_la, z_al, z_lm, z_ml, z_nm, nI_add, pk_mul, ↓reduceIte, not_true_eq_false, not_false_eq_true, true_or, or_true, false_or, or_false, true_and, and_true, and_false, false_and, Classical.not_not, Nat.add_zero, z_01, z_em, z_bit_p, Nat.not_le, Nat.not_lt, reduceCtorEq, if_true, if_false]
  · by_cases hl : t_let (B p) = true
    · simp (disch := omega) only [hn, hl, q_bd_l, z_ltT, z_ltF, z_eqT, z_eqF, z_ltlT, z_ltlF, z_lltT, z_lltF, z_eqlT, z_eqlF, z_in, z_k7, z_cl, z_lneg, z_llT, z_llF, z_s1, z_nI_cl, z_nlt0, z_ne_m1, z_b0, z_b1, z_la, z_al, z_lm, z_ml, z_nm, nI_add, pk_mul, ↓reduceIte, not_true_eq_false, not_false_eq_true, true_or, or_true, false_or, or_false, true_and, and_true, and_false, false_and, Classical.not_not, Nat.add_zero, z_01, z_em, z_bit_p, Nat.not_le, Nat.not_lt, reduceCtorEq, if_true, if_false]
    · by_cases hd : t_dig (B p) = true
      · simp (disch := omega) only [hn, hl, hd, q_bd_l, z_ltT, z_ltF, z_eqT, z_eqF, z_ltlT, z_ltlF, z_lltT, z_lltF, z_eqlT, z_eqlF, z_in, z_k7, z_cl, z_lneg, z_llT, z_llF, z_s1, z_nI_cl, z_nlt0, z_ne_m1, z_b0, z_b1, z_la, z_al, z_lm, z_ml, z_nm, nI_add, pk_mul, ↓reduceIte, not_true_eq_false, not_false_eq_true, true_or, or_true, false_or, or_false, true_and, and_true, and_false, false_and, Classical.not_not, Nat.add_zero, z_01, z_em, z_bit_p, Nat.not_le, Nat.not_lt, reduceCtorEq, if_true, if_false]
      · have e6 : ¬ (3 : Int32) = 0 := by decide
        simp (disch := omega) only [hn, hl, hd, e6, q_bd_l, z_ltT, z_ltF, z_eqT, z_eqF, z_ltlT, z_ltlF, z_lltT, z_lltF, z_eqlT, z_eqlF, z_in, z_k7, z_cl, z_lneg, z_llT, z_llF, z_s1, z_nI_cl, z_nlt0, z_ne_m1, z_b0, z_b1, z_la, z_al, z_lm, z_ml, z_nm, nI_add, pk_mul, ↓reduceIte, not_true_eq_false, not_false_eq_true, true_or, or_true, false_or, or_false, true_and, and_true, and_false, false_and, Classical.not_not, Nat.add_zero, z_01, z_em, z_bit_p, Nat.not_le, Nat.not_lt, reduceCtorEq, if_true, if_false]
theorem k_wd16 (X : Sx) (d : Nat) (u : UInt32) (w : List Int32) (hu : u.toNat < q_sb.length) (hw : q_sb.getD u.toNat [] = w) (hw9 : w.length < 100) (hw8 : ∀ i, i < w.length → ∃ c, c < 128 ∧ w.getD i 0 = nI c) (I : Ii) (T : Tt) {B : Nat → Nat} {n p : Nat} (h : z_Ta I B n) (h2 : I 1 2 = nI p) (hs : p + w.length ≤ n) : ∀ m k, k + m = w.length → c_X10_isWord_1_16 X d u (nI k) I T = z_r (z_b (∀ i, i < w.length → k ≤ i → nI (B (p + i)) = w.getD i 0)) I T := by
  have hu2 : Nat.blt u.toNat q_sb.length = true := by simpa using hu
  have e : (Int32.ofNat w.length) = nI w.length := rfl
  have h1 := h.1
  intro m
  induction m with
  | zero =>
    intro k hk
    rw [e_X10_isWord_1_16, hw, hu2]
    have e2 : (∀ i, i < w.length → k ≤ i → nI (B (p + i)) = w.getD i 0) = True := eq_true (fun i h1 h2 => by omega)
    unfold z_b
    simp (disch := omega) only [e, e2, Bool.and_true, cond_true, q_bd_l, z_ltT, z_ltF, z_eqT, z_eqF, z_ltlT, z_ltlF, z_lltT, z_lltF, z_eqlT, z_eqlF, z_in, z_k7, z_cl, z_lneg, z_llT, z_llF, z_s1, z_nI_cl, z_nlt0, z_ne_m1, z_b0, z_b1, z_la, z_al, z_lm, z_ml, z_nm, nI_add, pk_mul, ↓reduceIte, not_true_eq_false, not_false_eq_true, true_or, or_true, false_or, or_false, true_and, and_true, and_false, false_and, Classical.not_not, Nat.add_zero, z_01, z_em, z_bit_p, Nat.not_le, Nat.not_lt, reduceCtorEq, if_true, if_false]
  | succ m ih =>
    intro k hk
    rw [e_X10_isWord_1_16, hw, hu2]
    obtain ⟨h4, h5⟩ := h.2.2 (p + k) (by omega)
    obtain ⟨c, hc, ec⟩ := hw8 k (by omega)
    by_cases hb : nI (B (p + k)) = w.getD k 0
    · have hb2 : z_by (B (p + k)) = w.getD k 0 := by
        rw [ec, z_nI_eq _ _ (by omega) (by omega)] at hb
        rw [ec, hb]; exact z_by_n c hc
      have e2 : (∀ i, i < w.length → k ≤ i → nI (B (p + i)) = w.getD i 0) ↔ (∀ i, i < w.length → k + 1 ≤ i → nI (B (p + i)) = w.getD i 0) := by
        constructor
        · exact fun a i h7 h8 => a i h7 (by omega)
        · intro a i h7 h8
          by_cases h9 : i = k
          · subst h9; exact hb
          · exact a i h7 (by omega)
      have i1 := ih (k + 1) (by omega)
      have e3 : z_b (∀ i, i < w.length → k ≤ i → nI (B (p + i)) = w.getD i 0) = z_b (∀ i, i < w.length → k + 1 ≤ i → nI (B (p + i)) = w.getD i 0) := by
        unfold z_b
        by_cases c : ∀ i, i < w.length → k + 1 ≤ i → nI (B (p + i)) = w.getD i 0
        · rw [if_pos c, if_pos (e2.mpr c)]
        · rw [if_neg c, if_neg (fun a => c (e2.mp a))]
      rw [e3, ← i1]
      simp (disch := omega) only [e, h2, h5, hb2, Bool.and_true, cond_true, q_bd_l, z_ltT, z_ltF, z_eqT, z_eqF, z_ltlT, z_ltlF, z_lltT, z_lltF, z_eqlT, z_eqlF, z_in, z_k7, z_cl, z_lneg, z_llT, z_llF, z_s1, z_nI_cl, z_nlt0, z_ne_m1, z_b0, z_b1, z_la, z_al, z_lm, z_ml, z_nm, nI_add, pk_mul, ↓reduceIte, not_true_eq_false, not_false_eq_true, true_or, or_true, false_or, or_false, true_and, and_true, and_false, false_and, Classical.not_not, Nat.add_zero, z_01, z_em, z_bit_p, Nat.not_le, Nat.not_lt, reduceCtorEq, if_true, if_false]
    · have hb2 : ¬ z_by (B (p + k)) = w.getD k 0 := by
        intro a
        apply hb
        have a2 := z_by_1 (B (p + k)) h4
        rw [← a2, a, ec]
        rw [show (255 : Int32) = nI 255 from rfl, z_nand]
        congr 1
        have := Nat.and_two_pow_sub_one_eq_mod c 8
        rw [show (255 : Nat) = 2 ^ 8 - 1 from rfl, this]
        exact Nat.mod_eq_of_lt (by omega)
      have e3 : z_b (∀ i, i < w.length → k ≤ i → nI (B (p + i)) = w.getD i 0) = 0 := by
        unfold z_b
        rw [if_neg]
        exact fun a => hb (a k (by omega) (Nat.le_refl _))
      rw [e3]
      simp (disch := omega) only [e, h2, h5, hb2, Bool.and_true, cond_true, q_bd_l, z_ltT, z_ltF, z_eqT, z_eqF, z_ltlT, z_ltlF, z_lltT, z_lltF, z_eqlT, z_eqlF, z_in, z_k7, z_cl, z_lneg, z_llT, z_llF, z_s1, z_nI_cl, z_nlt0, z_ne_m1, z_b0, z_b1, z_la, z_al, z_lm, z_ml, z_nm, nI_add, pk_mul, ↓reduceIte, not_true_eq_false, not_false_eq_true, true_or, or_true, false_or, or_false, true_and, and_true, and_false, false_and, Classical.not_not, Nat.add_zero, z_01, z_em, z_bit_p, Nat.not_le, Nat.not_lt, reduceCtorEq, if_true, if_false]
theorem k_isWord (X : Sx) (d : Nat) (u : UInt32) (w : List Int32) (hu : u.toNat < q_sb.length) (hw : q_sb.getD u.toNat [] = w) (hw9 : 0 < w.length ∧ w.length < 100) (hw8 : ∀ i, i < w.length → ∃ c, c < 128 ∧ w.getD i 0 = nI c) (I : Ii) (T : Tt) {B : Nat → Nat} {n p : Nat} (h : z_Rd I B n p) : c_X10_isWord_1 X (d + 1) u I T = z_r (z_b (t_isW w B n p = true)) I T := by
  have hu2 : Nat.blt u.toNat q_sb.length = true := by simpa using hu
  have e : (Int32.ofNat w.length) = nI w.length := rfl
  obtain ⟨t1, t2, t3, t4, t5, t6⟩ := h
  have h1 := t1.1
  rw [e_X10_isWord_1, t5, hw, hu2]
  have no : ¬ (p < n ∧ t_let (B p) = true) → ¬ t_isW w B n p = true := fun hh => by
    rw [t_isW_p, t_scan_n hh]; omega
  by_cases hn : n ≤ p
  · have e5 := no (fun a => by omega)
    have e6 : ¬ (0 : Int32) = 1 := by decide
    simp (disch := omega) only [e_X10_isWord_1_12, hn, e6, e5, z_b, q_bd_l, z_ltT, z_ltF, z_eqT, z_eqF, z_ltlT, z_ltlF, z_lltT, z_lltF, z_eqlT, z_eqlF, z_in, z_k7, z_cl, z_lneg, z_llT, z_llF, z_s1, z_nI_cl, z_nlt0, z_ne_m1, z_b0, z_b1, z_la, z_al, z_lm, z_ml, z_nm, nI_add, pk_mul, ↓reduceIte, not_true_eq_false, not_false_eq_true, true_or, or_true, false_or, or_false, true_and, and_true, and_false, false_and, Classical.not_not, Nat.add_zero, z_01, z_em, z_bit_p, Nat.not_le, Nat.not_lt, reduceCtorEq, if_true, if_false]
  · by_cases hl : t_let (B p) = true
    · have te : t_end B n p = t_scan t_let B n p := by unfold t_end; rw [if_neg hn, if_pos hl]
      rw [te] at t4
      have hg := t_scan_ge t_let B n p
      have hle := t_scan_le t_let B t2.1
      have e3 : nI (t_scan t_let B n p) - nI p = nI (t_scan t_let B n p - p) := pk_sub hg
      by_cases hc : t_scan t_let B n p = p + w.length
      · have e4 : t_scan t_let B n p - p = w.length := by omega
        have g := k_wd16 X d u w hu hw hw9.2 hw8 I T t1 t3 (by omega) w.length 0 (by omega)
        have eb : z_b (t_isW w B n p = true) = z_b (∀ i, i < w.length → 0 ≤ i → nI (B (p + i)) = w.getD i 0) := by
          unfold z_b
          by_cases c : ∀ i, i < w.length → 0 ≤ i → nI (B (p + i)) = w.getD i 0
          · rw [if_pos c, if_pos]; rw [t_isW_p]; exact ⟨hc, fun i hi => c i hi (Nat.zero_le _)⟩
          · rw [if_neg c, if_neg]; rw [t_isW_p]; exact fun a => c (fun i hi _ => a.2 i hi)
        rw [eb, ← g]
        simp (disch := omega) only [hn, hl, e, t3, t4, e3, e4, Bool.and_true, cond_true, q_bd_l, z_ltT, z_ltF, z_eqT, z_eqF, z_ltlT, z_ltlF, z_lltT, z_lltF, z_eqlT, z_eqlF, z_in, z_k7, z_cl, z_lneg, z_llT, z_llF, z_s1, z_nI_cl, z_nlt0, z_ne_m1, z_b0, z_b1, z_la, z_al, z_lm, z_ml, z_nm, nI_add, pk_mul, ↓reduceIte, not_true_eq_false, not_false_eq_true, true_or, or_true, false_or, or_false, true_and, and_true, and_false, false_and, Classical.not_not, Nat.add_zero, z_01, z_em, z_bit_p, Nat.not_le, Nat.not_lt, reduceCtorEq, if_true, if_false]
        rfl
      · have e5 : ¬ t_isW w B n p = true := by rw [t_isW_p]; exact fun a => hc a.1
        have e6 : (nI (t_scan t_let B n p - p) = nI w.length) = False := z_eqF _ _ (by omega) (by omega) (by omega)
        simp (disch := omega) only [e_X10_isWord_1_12, hn, hl, e, t3, t4, e3, e6, e5, z_b, Bool.and_true, cond_true, q_bd_l, z_ltT, z_ltF, z_eqT, z_eqF, z_ltlT, z_ltlF, z_lltT, z_lltF, z_eqlT, z_eqlF, z_in, z_k7, z_cl, z_lneg, z_llT, z_llF, z_s1, z_nI_cl, z_nlt0, z_ne_m1, z_b0, z_b1, z_la, z_al, z_lm, z_ml, z_nm, nI_add, pk_mul, ↓reduceIte, not_true_eq_false, not_false_eq_true, true_or, or_true, false_or, or_false, true_and, and_true, and_false, false_and, Classical.not_not, Nat.add_zero, z_01, z_em, z_bit_p, Nat.not_le, Nat.not_lt, reduceCtorEq, if_true, if_false]
    · have e5 := no (fun a => hl a.2)
      by_cases hd : t_dig (B p) = true
      · have e6 : ¬ (2 : Int32) = 1 := by decide
        simp (disch := omega) only [e_X10_isWord_1_12, hn, hl, hd, e6, e5, z_b, q_bd_l, z_ltT, z_ltF, z_eqT, z_eqF, z_ltlT, z_ltlF, z_lltT, z_lltF, z_eqlT, z_eqlF, z_in, z_k7, z_cl, z_lneg, z_llT, z_llF, z_s1, z_nI_cl, z_nlt0, z_ne_m1, z_b0, z_b1, z_la, z_al, z_lm, z_ml, z_nm, nI_add, pk_mul, ↓reduceIte, not_true_eq_false, not_false_eq_true, true_or, or_true, false_or, or_false, true_and, and_true, and_false, false_and, Classical.not_not, Nat.add_zero, z_01, z_em, z_bit_p, Nat.not_le, Nat.not_lt, reduceCtorEq, if_true, if_false]
      · have e6 : ¬ (3 : Int32) = 1 := by decide
        simp (disch := omega) only [e_X10_isWord_1_12, hn, hl, hd, e6, e5, z_b, q_bd_l, z_ltT, z_ltF, z_eqT, z_eqF, z_ltlT, z_ltlF, z_lltT, z_lltF, z_eqlT, z_eqlF, z_in, z_k7, z_cl, z_lneg, z_llT, z_llF, z_s1, z_nI_cl, z_nlt0, z_ne_m1, z_b0, z_b1, z_la, z_al, z_lm, z_ml, z_nm, nI_add, pk_mul, ↓reduceIte, not_true_eq_false, not_false_eq_true, true_or, or_true, false_or, or_false, true_and, and_true, and_false, false_and, Classical.not_not, Nat.add_zero, z_01, z_em, z_bit_p, Nat.not_le, Nat.not_lt, reduceCtorEq, if_true, if_false]
theorem k_isSign (X : Sx) (d : Nat) (c : Nat) (hc : c < 128) (hcl : t_let c = false) (hcd : t_dig c = false) (I : Ii) (T : Tt) {B : Nat → Nat} {n p : Nat} (h : z_Rd I B n p) : c_X10_isSign_1 X (d + 2) (nI c) I T = z_r (z_b (t_isS c B n p = true)) I T := by
  obtain ⟨t1, t2, t3, t4, t5, t6⟩ := h
  rw [e_X10_isSign_1, t5]
  by_cases hn : n ≤ p
  · have e5 : ¬ t_isS c B n p = true := by rw [t_isS_p]; omega
    have e6 : ¬ (0 : Int32) = 3 := by decide
    simp (disch := omega) only [e_X10_isSign_1_18, hn, e6, e5, z_b, q_bd_l, z_ltT, z_ltF, z_eqT, z_eqF, z_ltlT, z_ltlF, z_lltT, z_lltF, z_eqlT, z_eqlF, z_in, z_k7, z_cl, z_lneg, z_llT, z_llF, z_s1, z_nI_cl, z_nlt0, z_ne_m1, z_b0, z_b1, z_la, z_al, z_lm, z_ml, z_nm, nI_add, pk_mul, ↓reduceIte, not_true_eq_false, not_false_eq_true, true_or, or_true, false_or, or_false, true_and, and_true, and_false, false_and, Classical.not_not, Nat.add_zero, z_01, z_em, z_bit_p, Nat.not_le, Nat.not_lt, reduceCtorEq, if_true, if_false]
  · have b1 := (t1.2.2 p (by omega)).1
    by_cases hl : t_let (B p) = true
    · have e5 : ¬ t_isS c B n p = true := by
        rw [t_isS_p]; intro a; rw [a.2, hcl] at hl; cases hl
      have e6 : ¬ (1 : Int32) = 3 := by decide
      simp (disch := omega) only [e_X10_isSign_1_18, hn, hl, e6, e5, z_b, q_bd_l, z_ltT, z_ltF, z_eqT, z_eqF, z_ltlT, z_ltlF, z_lltT, z_lltF, z_eqlT, z_eqlF, z_in, z_k7, z_cl, z_lneg, z_llT, z_llF, z_s1, z_nI_cl, z_nlt0, z_ne_m1, z_b0, z_b1, z_la, z_al, z_lm, z_ml, z_nm, nI_add, pk_mul, ↓reduceIte, not_true_eq_false, not_false_eq_true, true_or, or_true, false_or, or_false, true_and, and_true, and_false, false_and, Classical.not_not, Nat.add_zero, z_01, z_em, z_bit_p, Nat.not_le, Nat.not_lt, reduceCtorEq, if_true, if_false]
    · by_cases hd : t_dig (B p) = true
      · have e5 : ¬ t_isS c B n p = true := by
          rw [t_isS_p]; intro a; rw [a.2, hcd] at hd; cases hd
        have e6 : ¬ (2 : Int32) = 3 := by decide
        simp (disch := omega) only [e_X10_isSign_1_18, hn, hl, hd, e6, e5, z_b, q_bd_l, z_ltT, z_ltF, z_eqT, z_eqF, z_ltlT, z_ltlF, z_lltT, z_lltF, z_eqlT, z_eqlF, z_in, z_k7, z_cl, z_lneg, z_llT, z_llF, z_s1, z_nI_cl, z_nlt0, z_ne_m1, z_b0, z_b1, z_la, z_al, z_lm, z_ml, z_nm, nI_add, pk_mul, ↓reduceIte, not_true_eq_false, not_false_eq_true, true_or, or_true, false_or, or_false, true_and, and_true, and_false, false_and, Classical.not_not, Nat.add_zero, z_01, z_em, z_bit_p, Nat.not_le, Nat.not_lt, reduceCtorEq, if_true, if_false]
      · have h1 := t1.1
        have kn := t1.2.1
        have kb := (t1.2.2 p (by omega)).2
        by_cases e5 : t_isS c B n p = true
        · have e7 : z_by (B p) = nI c := by
            rw [t_isS_p] at e5
            rw [e5.2]; exact z_by_n c hc
          simp (disch := omega) only [e_X10_isSign_1_18, hn, hl, hd, t3, kn, kb, e7, e5, z_b, q_bd_l, z_ltT, z_ltF, z_eqT, z_eqF, z_ltlT, z_ltlF, z_lltT, z_lltF, z_eqlT, z_eqlF, z_in, z_k7, z_cl, z_lneg, z_llT, z_llF, z_s1, z_nI_cl, z_nlt0, z_ne_m1, z_b0, z_b1, z_la, z_al, z_lm, z_ml, z_nm, nI_add, pk_mul, ↓reduceIte, not_true_eq_false, not_false_eq_true, true_or, or_true, false_or, or_false, true_and, and_true, and_false, false_and, Classical.not_not, Nat.add_zero, z_01, z_em, z_bit_p, Nat.not_le, Nat.not_lt, reduceCtorEq, if_true, if_false]
        · have e7 : ¬ z_by (B p) = nI c := by
            intro a
            have a2 := z_by_1 (B p) b1
            have a3 := z_by_1 c (by omega)
            rw [z_by_n c hc] at a3
            rw [a, a3, z_nI_eq _ _ (by omega) (by omega)] at a2
            apply e5; rw [t_isS_p]; exact ⟨by omega, a2.symm⟩
          simp (disch := omega) only [e_X10_isSign_1_18, hn, hl, hd, t3, kn, kb, e7, e5, z_b, q_bd_l, z_ltT, z_ltF, z_eqT, z_eqF, z_ltlT, z_ltlF, z_lltT, z_lltF, z_eqlT, z_eqlF, z_in, z_k7, z_cl, z_lneg, z_llT, z_llF, z_s1, z_nI_cl, z_nlt0, z_ne_m1, z_b0, z_b1, z_la, z_al, z_lm, z_ml, z_nm, nI_add, pk_mul, ↓reduceIte, not_true_eq_false, not_false_eq_true, true_or, or_true, false_or, or_false, true_and, and_true, and_false, false_and, Classical.not_not, Nat.add_zero, z_01, z_em, z_bit_p, Nat.not_le, Nat.not_lt, reduceCtorEq, if_true, if_false]
theorem t_nf_0 {B : Nat → Nat} {n p : Nat} (h : ¬ (p < n ∧ t_dig (B p) = true)) : t_nf B n p = 0 := by
  unfold t_nf; rw [t_scan_n h]; omega
theorem k_isNumber (X : Sx) (d : Nat) (lo hi : Int32) (dg : Nat) (hdg : dg ≤ 4) (I : Ii) (T : Tt) {B : Nat → Nat} {n p : Nat} (h : z_Rd I B n p) : c_X10_isNumber_1 X (d + 1) lo hi (nI dg) I T = z_r (z_b (t_isN lo hi dg B n p = true)) I T := by
  obtain ⟨t1, t2, t3, t4, t5, t6⟩ := h
  have h1 := t1.1
  rw [e_X10_isNumber_1, t5]
  have no : ¬ (p < n ∧ t_dig (B p) = true) → ¬ t_isN lo hi dg B n p = true := fun hh => by
    rw [t_isN_p, t_nf_0 hh]; omega
  by_cases hn : n ≤ p
  · have e5 := no (fun a => by omega)
    have e6 : ¬ (0 : Int32) = 2 := by decide
    simp (disch := omega) only [e_X10_isNumber_1_21, hn, e6, e5, z_b, q_bd_l, z_ltT, z_ltF, z_eqT, z_eqF, z_ltlT, z_ltlF, z_lltT, z_lltF, z_eqlT, z_eqlF, z_in, z_k7, z_cl, z_lneg, z_llT, z_llF, z_s1, z_nI_cl, z_nlt0, z_ne_m1, z_b0, z_b1, z_la, z_al, z_lm, z_ml, z_nm, nI_add, pk_mul, ↓reduceIte, not_true_eq_false, not_false_eq_true, true_or, or_true, false_or, or_false, true_and, and_true, and_false, false_and, Classical.not_not, Nat.add_zero, z_01, z_em, z_bit_p, Nat.not_le, Nat.not_lt, reduceCtorEq, if_true, if_false]
  · by_cases hl : t_let (B p) = true
    · have e5 := no (fun a => by
        have a2 := a.2
        rw [t_dig_p] at a2
        rw [t_let_p] at hl
        omega)
      have e6 : ¬ (1 : Int32) = 2 := by decide
      simp (disch := omega) only [e_X10_isNumber_1_21, hn, hl, e6, e5, z_b, q_bd_l, z_ltT, z_ltF, z_eqT, z_eqF, z_ltlT, z_ltlF, z_lltT, z_lltF, z_eqlT, z_eqlF, z_in, z_k7, z_cl, z_lneg, z_llT, z_llF, z_s1, z_nI_cl, z_nlt0, z_ne_m1, z_b0, z_b1, z_la, z_al, z_lm, z_ml, z_nm, nI_add, pk_mul, ↓reduceIte, not_true_eq_false, not_false_eq_true, true_or, or_true, false_or, or_false, true_and, and_true, and_false, false_and, Classical.not_not, Nat.add_zero, z_01, z_em, z_bit_p, Nat.not_le, Nat.not_lt, reduceCtorEq, if_true, if_false]
    · by_cases hd : t_dig (B p) = true
      · have te : t_end B n p = t_scan t_dig B n p := by unfold t_end; rw [if_neg hn, if_neg hl, if_pos hd]
        rw [te] at t4
        have t6 := t6 (by omega) hd
        have hg := t_scan_ge t_dig B n p
        have hle := t_scan_le t_dig B t2.1
        have hy := t_scan_y (by omega : p < n) hd
        have hg2 := t_scan_ge t_dig B n (p + 1)
        have e3 : nI (t_scan t_dig B n p) - nI p = nI (t_nf B n p) := pk_sub hg
        have e4 : 0 < t_nf B n p ∧ t_nf B n p ≤ 400 := by unfold t_nf; omega
        by_cases c1 : dg < t_nf B n p
        · have e5 : ¬ t_isN lo hi dg B n p = true := by rw [t_isN_p]; omega
          simp (disch := omega) only [e_X10_isNumber_1_21, hn, hl, hd, t3, t4, e3, e5, z_b, q_bd_l, z_ltT, z_ltF, z_eqT, z_eqF, z_ltlT, z_ltlF, z_lltT, z_lltF, z_eqlT, z_eqlF, z_in, z_k7, z_cl, z_lneg, z_llT, z_llF, z_s1, z_nI_cl, z_nlt0, z_ne_m1, z_b0, z_b1, z_la, z_al, z_lm, z_ml, z_nm, nI_add, pk_mul, ↓reduceIte, not_true_eq_false, not_false_eq_true, true_or, or_true, false_or, or_false, true_and, and_true, and_false, false_and, Classical.not_not, Nat.add_zero, z_01, z_em, z_bit_p, Nat.not_le, Nat.not_lt, reduceCtorEq, if_true, if_false]
        · have hlt := t_num_lt B n p (t_nf B n p) (by unfold t_nf; omega)
          have hpw : 10 ^ t_nf B n p ≤ 10 ^ 4 := Nat.pow_le_pow_right (by decide) (by omega)
          have em : t_vl B p (t_nf B n p) = t_num B p (t_nf B n p) := t_vl_e (by omega)
          rw [em] at t6
          by_cases c2 : nI (t_num B p (t_nf B n p)) < lo
          · have e5 : ¬ t_isN lo hi dg B n p = true := by rw [t_isN_p]; exact fun a => a.2.2.1 c2
            simp (disch := omega) only [e_X10_isNumber_1_21, hn, hl, hd, t3, t4, e3, t6, c2, e5, z_b, q_bd_l, z_ltT, z_ltF, z_eqT, z_eqF, z_ltlT, z_ltlF, z_lltT, z_lltF, z_eqlT, z_eqlF, z_in, z_k7, z_cl, z_lneg, z_llT, z_llF, z_s1, z_nI_cl, z_nlt0, z_ne_m1, z_b0, z_b1, z_la, z_al, z_lm, z_ml, z_nm, nI_add, pk_mul, ↓reduceIte, not_true_eq_false, not_false_eq_true, true_or, or_true, false_or, or_false, true_and, and_true, and_false, false_and, Classical.not_not, Nat.add_zero, z_01, z_em, z_bit_p, Nat.not_le, Nat.not_lt, reduceCtorEq, if_true, if_false]
          · by_cases c3 : hi < nI (t_num B p (t_nf B n p))
            · have e5 : ¬ t_isN lo hi dg B n p = true := by rw [t_isN_p]; exact fun a => a.2.2.2 c3
              simp (disch := omega) only [e_X10_isNumber_1_21, hn, hl, hd, t3, t4, e3, t6, c2, c3, e5, z_b, q_bd_l, z_ltT, z_ltF, z_eqT, z_eqF, z_ltlT, z_ltlF, z_lltT, z_lltF, z_eqlT, z_eqlF, z_in, z_k7, z_cl, z_lneg, z_llT, z_llF, z_s1, z_nI_cl, z_nlt0, z_ne_m1, z_b0, z_b1, z_la, z_al, z_lm, z_ml, z_nm, nI_add, pk_mul, ↓reduceIte, not_true_eq_false, not_false_eq_true, true_or, or_true, false_or, or_false, true_and, and_true, and_false, false_and, Classical.not_not, Nat.add_zero, z_01, z_em, z_bit_p, Nat.not_le, Nat.not_lt, reduceCtorEq, if_true, if_false]
            · have e5 : t_isN lo hi dg B n p = true := by rw [t_isN_p]; exact ⟨e4.1, by omega, c2, c3⟩
              simp (disch := omega) only [e_X10_isNumber_1_21, hn, hl, hd, t3, t4, e3, t6, c2, c3, e5, z_b, q_bd_l, z_ltT, z_ltF, z_eqT, z_eqF, z_ltlT, z_ltlF, z_lltT, z_lltF, z_eqlT, z_eqlF, z_in, z_k7, z_cl, z_lneg, z_llT, z_llF, z_s1, z_nI_cl, z_nlt0, z_ne_m1, z_b0, z_b1, z_la, z_al, z_lm, z_ml, z_nm, nI_add, pk_mul, ↓reduceIte, not_true_eq_false, not_false_eq_true, true_or, or_true, false_or, or_false, true_and, and_true, and_false, false_and, Classical.not_not, Nat.add_zero, z_01, z_em, z_bit_p, Nat.not_le, Nat.not_lt, reduceCtorEq, if_true, if_false]
      · have e5 := no (fun a => hd a.2)
        have e6 : ¬ (3 : Int32) = 2 := by decide
        simp (disch := omega) only [e_X10_isNumber_1_21, hn, hl, hd, e6, e5, z_b, q_bd_l, z_ltT, z_ltF, z_eqT, z_eqF, z_ltlT, z_ltlF, z_lltT, z_lltF, z_eqlT, z_eqlF, z_in, z_k7, z_cl, z_lneg, z_llT, z_llF, z_s1, z_nI_cl, z_nlt0, z_ne_m1, z_b0, z_b1, z_la, z_al, z_lm, z_ml, z_nm, nI_add, pk_mul, ↓reduceIte, not_true_eq_false, not_false_eq_true, true_or, or_true, false_or, or_false, true_and, and_true, and_false, false_and, Classical.not_not, Nat.add_zero, z_01, z_em, z_bit_p, Nat.not_le, Nat.not_lt, reduceCtorEq, if_true, if_false]
theorem k_isFigures (X : Sx) (d : Nat) (dg : Nat) (hdg : 0 < dg ∧ dg ≤ 400) (I : Ii) (T : Tt) {B : Nat → Nat} {n p : Nat} (h : z_Rd I B n p) : c_X10_isFigures_1 X (d + 1) (nI dg) I T = z_r (z_b (t_nf B n p = dg)) I T := by
  obtain ⟨t1, t2, t3, t4, t5, t6⟩ := h
  have h1 := t1.1
  rw [e_X10_isFigures_1, t5]
  have no : ¬ (p < n ∧ t_dig (B p) = true) → ¬ t_nf B n p = dg := fun hh => by
    rw [t_nf_0 hh]; omega
  by_cases hn : n ≤ p
  · have e5 := no (fun a => by omega)
    have e6 : ¬ (0 : Int32) = 2 := by decide
    simp (disch := omega) only [e_X10_isFigures_1_13, hn, e6, e5, z_b, q_bd_l, z_ltT, z_ltF, z_eqT, z_eqF, z_ltlT, z_ltlF, z_lltT, z_lltF, z_eqlT, z_eqlF, z_in, z_k7, z_cl, z_lneg, z_llT, z_llF, z_s1, z_nI_cl, z_nlt0, z_ne_m1, z_b0, z_b1, z_la, z_al, z_lm, z_ml, z_nm, nI_add, pk_mul, ↓reduceIte, not_true_eq_false, not_false_eq_true, true_or, or_true, false_or, or_false, true_and, and_true, and_false, false_and, Classical.not_not, Nat.add_zero, z_01, z_em, z_bit_p, Nat.not_le, Nat.not_lt, reduceCtorEq, if_true, if_false]
  · by_cases hl : t_let (B p) = true
    · have e5 := no (fun a => by
        have a2 := a.2
        rw [t_dig_p] at a2
        rw [t_let_p] at hl
        omega)
      have e6 : ¬ (1 : Int32) = 2 := by decide
      simp (disch := omega) only [e_X10_isFigures_1_13, hn, hl, e6, e5, z_b, q_bd_l, z_ltT, z_ltF, z_eqT, z_eqF, z_ltlT, z_ltlF, z_lltT, z_lltF, z_eqlT, z_eqlF, z_in, z_k7, z_cl, z_lneg, z_llT, z_llF, z_s1, z_nI_cl, z_nlt0, z_ne_m1, z_b0, z_b1, z_la, z_al, z_lm, z_ml, z_nm, nI_add, pk_mul, ↓reduceIte, not_true_eq_false, not_false_eq_true, true_or, or_true, false_or, or_false, true_and, and_true, and_false, false_and, Classical.not_not, Nat.add_zero, z_01, z_em, z_bit_p, Nat.not_le, Nat.not_lt, reduceCtorEq, if_true, if_false]
    · by_cases hd : t_dig (B p) = true
      · have te : t_end B n p = t_scan t_dig B n p := by unfold t_end; rw [if_neg hn, if_neg hl, if_pos hd]
        rw [te] at t4
        have hg := t_scan_ge t_dig B n p
        have hle := t_scan_le t_dig B t2.1
        have e3 : nI (t_scan t_dig B n p) - nI p = nI (t_nf B n p) := pk_sub hg
        have e4 : t_nf B n p ≤ 400 := by unfold t_nf; omega
        by_cases c1 : t_nf B n p = dg
        · simp (disch := omega) only [e_X10_isFigures_1_13, hn, hl, hd, t3, t4, e3, c1, z_b, q_bd_l, z_ltT, z_ltF, z_eqT, z_eqF, z_ltlT, z_ltlF, z_lltT, z_lltF, z_eqlT, z_eqlF, z_in, z_k7, z_cl, z_lneg, z_llT, z_llF, z_s1, z_nI_cl, z_nlt0, z_ne_m1, z_b0, z_b1, z_la, z_al, z_lm, z_ml, z_nm, nI_add, pk_mul, ↓reduceIte, not_true_eq_false, not_false_eq_true, true_or, or_true, false_or, or_false, true_and, and_true, and_false, false_and, Classical.not_not, Nat.add_zero, z_01, z_em, z_bit_p, Nat.not_le, Nat.not_lt, reduceCtorEq, if_true, if_false]
        · simp (disch := omega) only [e_X10_isFigures_1_13, hn, hl, hd, t3, t4, e3, c1, z_b, q_bd_l, z_ltT, z_ltF, z_eqT, z_eqF, z_ltlT, z_ltlF, z_lltT, z_lltF, z_eqlT, z_eqlF, z_in, z_k7, z_cl, z_lneg, z_llT, z_llF, z_s1, z_nI_cl, z_nlt0, z_ne_m1, z_b0, z_b1, z_la, z_al, z_lm, z_ml, z_nm, nI_add, pk_mul, ↓reduceIte, not_true_eq_false, not_false_eq_true, true_or, or_true, false_or, or_false, true_and, and_true, and_false, false_and, Classical.not_not, Nat.add_zero, z_01, z_em, z_bit_p, Nat.not_le, Nat.not_lt, reduceCtorEq, if_true, if_false]
      · have e5 := no (fun a => hd a.2)
        have e6 : ¬ (3 : Int32) = 2 := by decide
        simp (disch := omega) only [e_X10_isFigures_1_13, hn, hl, hd, e6, e5, z_b, q_bd_l, z_ltT, z_ltF, z_eqT, z_eqF, z_ltlT, z_ltlF, z_lltT, z_lltF, z_eqlT, z_eqlF, z_in, z_k7, z_cl, z_lneg, z_llT, z_llF, z_s1, z_nI_cl, z_nlt0, z_ne_m1, z_b0, z_b1, z_la, z_al, z_lm, z_ml, z_nm, nI_add, pk_mul, ↓reduceIte, not_true_eq_false, not_false_eq_true, true_or, or_true, false_or, or_false, true_and, and_true, and_false, false_and, Classical.not_not, Nat.add_zero, z_01, z_em, z_bit_p, Nat.not_le, Nat.not_lt, reduceCtorEq, if_true, if_false]
