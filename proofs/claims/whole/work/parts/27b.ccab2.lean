/-! ===== THE CLASS READS THE CABINET: a jar ===== -/
def z_ck (I : Ii) (T : Tt) (B : Nat → Nat) (N : Nat) (res : Cr) (x : Rs) : Prop := (∀ q1 r', res = .ok (q1, r') → ∀ n' m', R_ok r' n' m' → ∃ J, x = z_r 1 J T ∧ z_Rd J B N q1 ∧ k_D J r' n' m' ∧ z_fr m_rd I J) ∧ (∀ e, res = .error e → ∃ J, x = z_r 0 J T ∧ J 1 2 = nI e ∧ e ≤ N ∧ z_fr m_rd I J)
theorem z_ck_e {I : Ii} {T : Tt} {B : Nat → Nat} {N e : Nat} {x : Rs} {J : Ii} (h1 : x = z_r 0 J T) (h2 : z_Rd J B N e) (h3 : z_fr m_rd I J) : z_ck I T B N (.error e) x := ⟨fun _ _ h => (by cases h), fun e' h => by cases h; exact ⟨J, h1, h2.2.2.1, h2.2.1.1, h3⟩⟩
theorem z_nm_u {r : Nat → Int32} {n m n' m' : Nat} (h : R_ok r n m) (h' : R_ok r n' m') : n' = n ∧ m' = m := by
  have a := (C_nm h).1
  have b := (C_nm h').1
  have c := (C_nm h).2
  have e := (C_nm h').2
  omega
theorem k_w (X : Sx) (d : Nat) (u i : Nat) (hu : u < 71) (he : q_sb.getD u [] = t_w i) (hw : w_ok (t_w i) = true) (I : Ii) (T : Tt) {B : Nat → Nat} {N p : Nat} (h : z_Rd I B N p) : (c_X10_isWord_1 X (d + 1) (OfNat.ofNat u : UInt32) I T = z_r (z_b (t_isW (t_w i) B N p = true)) I T) ∧ (t_isW (t_w i) B N p = true → ∃ J, c_X10_takeWord_1 X (d + 2) (OfNat.ofNat u : UInt32) I T = z_r 1 J T ∧ z_fr m_ta I J ∧ z_Rd J B N (t_nx B N p)) ∧ (¬ t_isW (t_w i) B N p = true → ∃ J, c_X10_takeWord_1 X (d + 2) (OfNat.ofNat u : UInt32) I T = z_r 0 J T ∧ z_fr m_ta I J ∧ z_Rd J B N p) := by
  have e : (OfNat.ofNat u : UInt32).toNat = u := by
    show u % 4294967296 = u
    omega
  have k1 := k_isW X d (OfNat.ofNat u : UInt32) (by rw [e]; exact hu) (by rw [e, he]; exact hw) I T h
  obtain ⟨J, k2, k3, k4, k5⟩ := k_takeW X d (OfNat.ofNat u : UInt32) (by rw [e]; exact hu) (by rw [e, he]; exact hw) I T h
  rw [e, he] at k1 k2 k4
  refine ⟨k1, fun c => ?_, fun c => ?_⟩
  · rw [z_b, if_pos c] at k2
    rw [if_pos c] at k4
    exact ⟨J, k2, k3, k4⟩
  · rw [z_b, if_neg c] at k2
    rw [if_neg c] at k4
    exact ⟨J, k2, k3, k4⟩
theorem k_num (X : Sx) (d : Nat) (lo hi : Int32) (I : Ii) (T : Tt) {B : Nat → Nat} {N p : Nat} (h : z_Rd I B N p) : (t_isN lo hi 4 B N p = true → ∃ J, c_X0_takeNumber_126 X (d + 3) lo hi I T = z_r 1 J T ∧ z_fr m_ta I J ∧ z_Rd J B N (t_nx B N p) ∧ J 1 6 = c_nm B N p) ∧ (¬ t_isN lo hi 4 B N p = true → ∃ J, c_X0_takeNumber_126 X (d + 3) lo hi I T = z_r 0 J T ∧ z_fr m_ta I J ∧ z_Rd J B N p) := by
  obtain ⟨J, k1, k2, k3, k4⟩ := k_takeNumber X d lo hi 4 (by omega) I T h
  have k1' : c_X10_takeNumber_1 X (d + 2) lo hi 4 I T = _ := k1
  refine ⟨fun c => ?_, fun c => ?_⟩
  · rw [z_b, if_pos c] at k1'
    rw [if_pos c] at k3 k4
    refine ⟨J, ?_, k2, k3, k4⟩
    rw [e_X0_takeNumber_126, k1']
    simp (disch := omega) only [e_X0_takeNumber_126_6, k_X0_takeNumber_126_6, q_bd_l, z_ltT, z_ltF, z_eqT, z_eqF, z_ltlT, z_ltlF, z_lltT, z_lltF, z_eqlT, z_eqlF, z_in, z_k7, z_cl, z_lneg, z_llT, z_llF, z_s1, z_nI_cl, z_nlt0, z_ne_m1, z_b0, z_b1, z_la, z_al, z_lm, z_ml, z_nm, nI_add, pk_mul, ↓reduceIte, not_true_eq_false, not_false_eq_true, true_or, or_true, false_or, or_false, true_and, and_true, and_false, false_and, Classical.not_not, Nat.add_zero, z_01, z_em, z_bit_p, Nat.not_le, Nat.not_lt, reduceCtorEq, if_true, if_false]
  · rw [z_b, if_neg c] at k1'
    rw [if_neg c] at k3
    refine ⟨J, ?_, k2, k3⟩
    rw [e_X0_takeNumber_126, k1']
    simp (disch := omega) only [e_X0_takeNumber_126_6, k_X0_takeNumber_126_6, q_bd_l, z_ltT, z_ltF, z_eqT, z_eqF, z_ltlT, z_ltlF, z_lltT, z_lltF, z_eqlT, z_eqlF, z_in, z_k7, z_cl, z_lneg, z_llT, z_llF, z_s1, z_nI_cl, z_nlt0, z_ne_m1, z_b0, z_b1, z_la, z_al, z_lm, z_ml, z_nm, nI_add, pk_mul, ↓reduceIte, not_true_eq_false, not_false_eq_true, true_or, or_true, false_or, or_false, true_and, and_true, and_false, false_and, Classical.not_not, Nat.add_zero, z_01, z_em, z_bit_p, Nat.not_le, Nat.not_lt, reduceCtorEq, if_true, if_false]
theorem z_Rd_o {I J : Ii} {B : Nat → Nat} {N p : Nat} (h : z_Rd I B N p) (h1 : J 1 = I 1) (h2 : J 2 = I 2) : z_Rd J B N p := by
  obtain ⟨⟨a1, a2, a3⟩, b, c, e, f, g⟩ := h
  exact ⟨⟨a1, by rw [h1]; exact a2, fun k hk => by rw [h2]; exact a3 k hk⟩, b, by rw [h1]; exact c, by rw [h1]; exact e, by rw [h1]; exact f, by rw [h1]; exact g⟩
theorem z_Rd_w {I : Ii} {B : Nat → Nat} {N p : Nat} (h : z_Rd I B N p) (a k : Nat) (v : Int32) (ha : 2 < a) : z_Rd (q_w I a k v) B N p := z_Rd_o h (z_w_a _ _ _ _ _ (by omega)) (z_w_a _ _ _ _ _ (by omega))
theorem k_jarOn32 (X : Sx) (d : Nat) (I : Ii) (T : Tt) (r : Nat → Int32) (n : Nat) (v : Int32) (hn : n ≤ 10) (h : ∀ j, j < n → I 33 j = r (12 + 13 * j + 1)) : c_X7_jarOn_32 X (d + 1) v (nI n) I T = z_r (if R_on r n v < n then nI (R_on r n v) else -1) I T := by
  rw [e_X7_jarOn_32]
  refine (z_find (fun k => c_X7_jarOn_32_2 X d v (nI n) (nI k) I T) (fun k => z_r (nI k) I T) (fun i => decide (r (12 + 13 * i + 1) = v)) n (fun k hk => ?_)).trans ?_
  · have c := h k hk
    rw [e_X7_jarOn_32_2]
    by_cases h4 : r (12 + 13 * k + 1) = v <;> simp (disch := omega) only [c, h4, q_bd_l, z_ltT, z_ltF, z_eqT, z_eqF, z_ltlT, z_ltlF, z_lltT, z_lltF, z_eqlT, z_eqlF, z_in, z_k7, z_cl, z_lneg, z_llT, z_llF, z_s1, z_nI_cl, z_nlt0, z_ne_m1, z_b0, z_b1, z_la, z_al, z_lm, z_ml, z_nm, nI_add, pk_mul, ↓reduceIte, not_true_eq_false, not_false_eq_true, true_or, or_true, false_or, or_false, true_and, and_true, and_false, false_and, Classical.not_not, Nat.add_zero, z_01, z_em, z_bit_p, Nat.not_le, Nat.not_lt, reduceCtorEq, if_true, if_false, decide_true, decide_false, Bool.and_true, Bool.and_false, Bool.true_and, Bool.false_and, Bool.or_true, Bool.or_false, Bool.true_or, Bool.false_or, Bool.false_eq_true, ne_eq, Bool.not_true, Bool.not_false, decide_not]
  · rw [e_X7_jarOn_32_2]
    unfold R_on
    split <;> simp (disch := omega) only [q_bd_l, z_ltT, z_ltF, z_eqT, z_eqF, z_ltlT, z_ltlF, z_lltT, z_lltF, z_eqlT, z_eqlF, z_in, z_k7, z_cl, z_lneg, z_llT, z_llF, z_s1, z_nI_cl, z_nlt0, z_ne_m1, z_b0, z_b1, z_la, z_al, z_lm, z_ml, z_nm, nI_add, pk_mul, ↓reduceIte, not_true_eq_false, not_false_eq_true, true_or, or_true, false_or, or_false, true_and, and_true, and_false, false_and, Classical.not_not, Nat.add_zero, z_01, z_em, z_bit_p, Nat.not_le, Nat.not_lt, reduceCtorEq, if_true, if_false]
theorem z_Rd_v {I : Ii} {B : Nat → Nat} {N p : Nat} (h : z_Rd I B N p) (hN : t_isN 0 11 4 B N p = true) : I 1 5 = c_nm B N p := by
  obtain ⟨h1, h2, h3, h4, -⟩ := t_isN_lt hN
  have := h.2.2.2.2.2 h1 h2
  rw [t_vl_e (by omega)] at this
  exact this
/-- a free place -/
theorem k_free (X : Sx) (d : Nat) (I : Ii) (T : Tt) (r : Nat → Int32) {B : Nat → Nat} {N p n m : Nat} (h : z_Rd I B N p) (hn : n < 10) (hD : k_D I r n m) : (t_isN 0 11 4 B N p = true → ¬ R_on r n (c_nm B N p) < n → ∃ J, c_X0_takeFreePlace_126 X (d + 3) (nI n) I T = z_r 1 J T ∧ z_fr (m_jn n) I J ∧ z_Rd J B N (t_nx B N p) ∧ J 33 n = c_nm B N p) ∧ (¬ (t_isN 0 11 4 B N p = true ∧ ¬ R_on r n (c_nm B N p) < n) → ∃ J, c_X0_takeFreePlace_126 X (d + 3) (nI n) I T = z_r 0 J T ∧ z_fr (m_jn n) I J ∧ z_Rd J B N p) := by
  have k1 := k_isNumber X (d + 1) 0 11 4 (by omega) I T h
  have k1' : c_X10_isNumber_1 X (d + 2) 0 11 4 I T = _ := k1
  have kj := k_jarOn32 X (d + 1) I T r n (c_nm B N p) (by omega) (fun j hj => hD.2.2.2.2.2.1 j hj)
  rw [e_X0_takeFreePlace_126, k1']
  by_cases c1 : t_isN 0 11 4 B N p = true
  · have v5 := z_Rd_v h c1
    by_cases c2 : R_on r n (c_nm B N p) < n
    · rw [if_pos c2] at kj
      refine ⟨fun _ c => absurd c2 c, fun _ => ⟨I, ?_, z_fr_r _ _, h⟩⟩
      simp (disch := omega) only [e_X0_takeFreePlace_126_6, k_X0_takeFreePlace_126_6, e_X0_takeFreePlace_126_16, k_X0_takeFreePlace_126_16, c1, v5, kj, q_bd_l, z_ltT, z_ltF, z_eqT, z_eqF, z_ltlT, z_ltlF, z_lltT, z_lltF, z_eqlT, z_eqlF, z_in, z_k7, z_cl, z_lneg, z_llT, z_llF, z_s1, z_nI_cl, z_nlt0, z_ne_m1, z_b0, z_b1, z_la, z_al, z_lm, z_ml, z_nm, nI_add, pk_mul, ↓reduceIte, not_true_eq_false, not_false_eq_true, true_or, or_true, false_or, or_false, true_and, and_true, and_false, false_and, Classical.not_not, Nat.add_zero, z_01, z_em, z_bit_p, Nat.not_le, Nat.not_lt, reduceCtorEq, if_true, if_false]
    · rw [if_neg c2] at kj
      refine ⟨fun _ _ => ?_, fun c => absurd ⟨c1, c2⟩ c⟩
      obtain ⟨J, j1, j2, j3, j4⟩ := k_stepR X (d + 1) (q_w I 33 n (c_nm B N p)) T (z_Rd_w h 33 n _ (by omega))
      refine ⟨J, ?_, z_fr_t (z_fr_w (z_fr_r _ _) 33 n _ (by simp [m_jn])) (z_jn_ta j2), j3, by rw [j2 33 n rfl]; exact z_w_s _ _ _ _⟩
      simp (disch := omega) only [e_X0_takeFreePlace_126_6, k_X0_takeFreePlace_126_6, e_X0_takeFreePlace_126_16, k_X0_takeFreePlace_126_16, e_X0_takeFreePlace_126_31, k_X0_takeFreePlace_126_31, c1, v5, kj, j1, q_bd_l, z_ltT, z_ltF, z_eqT, z_eqF, z_ltlT, z_ltlF, z_lltT, z_lltF, z_eqlT, z_eqlF, z_in, z_k7, z_cl, z_lneg, z_llT, z_llF, z_s1, z_nI_cl, z_nlt0, z_ne_m1, z_b0, z_b1, z_la, z_al, z_lm, z_ml, z_nm, nI_add, pk_mul, ↓reduceIte, not_true_eq_false, not_false_eq_true, true_or, or_true, false_or, or_false, true_and, and_true, and_false, false_and, Classical.not_not, Nat.add_zero, z_01, z_em, z_bit_p, Nat.not_le, Nat.not_lt, reduceCtorEq, if_true, if_false]
  · refine ⟨fun c => absurd c c1, fun _ => ⟨I, ?_, z_fr_r _ _, h⟩⟩
    simp (disch := omega) only [e_X0_takeFreePlace_126_6, k_X0_takeFreePlace_126_6, c1, q_bd_l, z_ltT, z_ltF, z_eqT, z_eqF, z_ltlT, z_ltlF, z_lltT, z_lltF, z_eqlT, z_eqlF, z_in, z_k7, z_cl, z_lneg, z_llT, z_llF, z_s1, z_nI_cl, z_nlt0, z_ne_m1, z_b0, z_b1, z_la, z_al, z_lm, z_ml, z_nm, nI_add, pk_mul, ↓reduceIte, not_true_eq_false, not_false_eq_true, true_or, or_true, false_or, or_false, true_and, and_true, and_false, false_and, Classical.not_not, Nat.add_zero, z_01, z_em, z_bit_p, Nat.not_le, Nat.not_lt, reduceCtorEq, if_true, if_false]
/-- six views -/
theorem k_views (X : Sx) (d : Nat) (I : Ii) (T : Tt) {B : Nat → Nat} {N p n : Nat} (h : z_Rd I B N p) (hn : n < 10) : (t_nf B N p = 6 → ∃ J, c_X0_takeViews_126 X (d + 3) (nI n) I T = z_r 1 J T ∧ z_fr (fun a k => m_ta a k || (a == 14 && Nat.ble (n * 6) k)) I J ∧ z_Rd J B N (t_nx B N p) ∧ ∀ t, t < 6 → J 14 (n * 6 + t) = nI (B (p + t)) - 48) ∧ (¬ t_nf B N p = 6 → c_X0_takeViews_126 X (d + 3) (nI n) I T = z_r 0 I T) := by
  have k1 := k_isFigures X (d + 1) 6 (by omega) I T h
  have k1' : c_X10_isFigures_1 X (d + 2) 6 I T = _ := k1
  rw [e_X0_takeViews_126, k1']
  refine ⟨fun c => ?_, fun c => ?_⟩
  · have hw := fun t ht => (c_dig (N := N) (p := p) (t := t) c ht).2
    obtain ⟨J, ⟨j1, j2, j3⟩, j4⟩ := z_foldP (β := Unit) (σ := Ii) (fun t _ J => c_X0_takeViews_126_9 X (d + 2) (nI n) (nI t) J T) (fun _ a => a) (fun t _ J => z_fr (fun a k => m_ta a k || (a == 14 && Nat.ble (n * 6) k)) I J ∧ z_Rd J B N p ∧ ∀ i, i < t → J 14 (n * 6 + i) = nI (B (p + i)) - 48) 6 (by
      intro t _ J ht ⟨q1, q2, q3⟩
      refine ⟨q_w J 14 (n * 6 + t) (nI (B (p + t)) - 48), ⟨z_fr_w q1 14 _ _ (by simp), z_Rd_w q2 14 _ _ (by omega), fun i hi => ?_⟩, ?_⟩
      · rw [z_w]
        by_cases e : i = t
        · rw [if_pos ⟨rfl, by rw [e]⟩, e]
        · rw [if_neg (by omega)]; exact q3 i (by omega)
      · have kf := k_figure X d J T (k := t) q2 (hw t ht)
        rw [e_X0_takeViews_126_9]
        have e3 : nI t < (6 : Int32) := nI_lt (b := 6) ht (by omega)
        rw [if_pos e3, kf]
        generalize nI (B (p + t)) - 48 = w
        simp (disch := omega) only [e_X0_takeViews_126_20, k_X0_takeViews_126_20, e_X0_takeViews_126_21, k_X0_takeViews_126_21, e_X9_setView_11, q_bd_l, z_ltT, z_ltF, z_eqT, z_eqF, z_ltlT, z_ltlF, z_lltT, z_lltF, z_eqlT, z_eqlF, z_in, z_k7, z_cl, z_lneg, z_llT, z_llF, z_s1, z_nI_cl, z_nlt0, z_ne_m1, z_b0, z_b1, z_la, z_al, z_lm, z_ml, z_nm, nI_add, pk_mul, ↓reduceIte, not_true_eq_false, not_false_eq_true, true_or, or_true, false_or, or_false, true_and, and_true, and_false, false_and, Classical.not_not, Nat.add_zero, z_01, z_em, z_bit_p, Nat.not_le, Nat.not_lt, reduceCtorEq, if_true, if_false]) () I ⟨z_fr_r _ _, h, fun i hi => by omega⟩
    obtain ⟨K, k1, k2, k3, k4⟩ := k_stepR X (d + 1) J T j2
    refine ⟨K, ?_, z_fr_t j1 (z_fr_m k2 (fun a k h => by simp [h])), k3, fun t ht => by rw [k2 14 _ rfl]; exact j3 t ht⟩
    have st : c_X0_takeViews_126_9 X (d + 2) (nI n) (nI 6) J T = z_r 1 K T := by
      rw [e_X0_takeViews_126_9, if_neg (by decide), k1]
      simp (disch := omega) only [e_X0_takeViews_126_26, k_X0_takeViews_126_26, q_bd_l, z_ltT, z_ltF, z_eqT, z_eqF, z_ltlT, z_ltlF, z_lltT, z_lltF, z_eqlT, z_eqlF, z_in, z_k7, z_cl, z_lneg, z_llT, z_llF, z_s1, z_nI_cl, z_nlt0, z_ne_m1, z_b0, z_b1, z_la, z_al, z_lm, z_ml, z_nm, nI_add, pk_mul, ↓reduceIte, not_true_eq_false, not_false_eq_true, true_or, or_true, false_or, or_false, true_and, and_true, and_false, false_and, Classical.not_not, Nat.add_zero, z_01, z_em, z_bit_p, Nat.not_le, Nat.not_lt, reduceCtorEq, if_true, if_false]
    have j4' : c_X0_takeViews_126_9 X (d + 2) (nI n) 0 I T = c_X0_takeViews_126_9 X (d + 2) (nI n) (nI 6) J T := j4
    simp (disch := omega) only [e_X0_takeViews_126_4, k_X0_takeViews_126_4, c, j4', st, q_bd_l, z_ltT, z_ltF, z_eqT, z_eqF, z_ltlT, z_ltlF, z_lltT, z_lltF, z_eqlT, z_eqlF, z_in, z_k7, z_cl, z_lneg, z_llT, z_llF, z_s1, z_nI_cl, z_nlt0, z_ne_m1, z_b0, z_b1, z_la, z_al, z_lm, z_ml, z_nm, nI_add, pk_mul, ↓reduceIte, not_true_eq_false, not_false_eq_true, true_or, or_true, false_or, or_false, true_and, and_true, and_false, false_and, Classical.not_not, Nat.add_zero, z_01, z_em, z_bit_p, Nat.not_le, Nat.not_lt, reduceCtorEq, if_true, if_false]
  · simp (disch := omega) only [e_X0_takeViews_126_4, k_X0_takeViews_126_4, c, q_bd_l, z_ltT, z_ltF, z_eqT, z_eqF, z_ltlT, z_ltlF, z_lltT, z_lltF, z_eqlT, z_eqlF, z_in, z_k7, z_cl, z_lneg, z_llT, z_llF, z_s1, z_nI_cl, z_nlt0, z_ne_m1, z_b0, z_b1, z_la, z_al, z_lm, z_ml, z_nm, nI_add, pk_mul, ↓reduceIte, not_true_eq_false, not_false_eq_true, true_or, or_true, false_or, or_false, true_and, and_true, and_false, false_and, Classical.not_not, Nat.add_zero, z_01, z_em, z_bit_p, Nat.not_le, Nat.not_lt, reduceCtorEq, if_true, if_false]
