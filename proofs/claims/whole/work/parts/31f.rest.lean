/-! ===== SEED, UNDO, IMAGE, BACK: both halves ===== -/
theorem l_image9 (X : Sx) (d : Nat) (I : Ii) (T : Tt) : ∃ K, c_X12_image_139 X (d + 1) I T = z_v K T ∧ K 139 3 = 1 ∧ z_fr (fun b k => b == 141 || (b == 139 && (k == 0 || k == 3))) I K ∧ (∀ k, k < 884 → K 141 k = I 140 k) ∧ ∀ k, 884 ≤ k → K 141 k = I 141 k := by
  obtain ⟨K, ⟨p1, p2, p3⟩, p4⟩ := z_foldP (β := Unit) (σ := Ii) (fun k _ K => c_X12_image_139_5 X d (nI k) K T) (fun _ u => u) (fun k _ K => z_fr (fun b _ => b == 141) (q_w I 139 0 0) K ∧ (∀ i, i < k → K 141 i = I 140 i) ∧ ∀ i, k ≤ i → K 141 i = I 141 i) 884 (by
    intro k _ K hk ⟨q1, q2, q3⟩
    have e3 : K 140 k = I 140 k := (q1 140 _ rfl).trans (by rw [z_w_a _ _ _ _ _ (by decide)])
    refine ⟨q_w K 141 k (I 140 k), ⟨z_fr_w q1 141 _ _ rfl, fun i hi => ?_, fun i hi => ?_⟩, ?_⟩
    · by_cases e : i = k
      · subst e; exact z_w_s _ _ _ _
      · rw [z_w_k _ _ _ _ _ e]; exact q2 i (by omega)
    · rw [z_w_k _ _ _ _ _ (by omega)]; exact q3 i (by omega)
    · rw [e_X12_image_139_5]
      simp (disch := omega) only [e3, q_bd_l, z_ltT, z_ltF, z_eqT, z_eqF, z_ltlT, z_ltlF, z_lltT, z_lltF, z_eqlT, z_eqlF, z_in, z_k7, z_cl, z_lneg, z_llT, z_llF, z_s1, z_nI_cl, z_nlt0, z_ne_m1, z_b0, z_b1, z_la, z_al, z_lm, z_ml, z_nm, nI_add, pk_mul, ↓reduceIte, not_true_eq_false, not_false_eq_true, true_or, or_true, false_or, or_false, true_and, and_true, and_false, false_and, Classical.not_not, Nat.add_zero, z_01, z_em, z_bit_p, Nat.not_le, Nat.not_lt, reduceCtorEq, if_true, if_false]) () (q_w I 139 0 0) ⟨z_fr_r _ _, fun i hi => by omega, fun i _ => by rw [z_w_a _ _ _ _ _ (by decide)]⟩
  refine ⟨q_w K 139 3 1, ?_, z_w_s _ _ _ _, z_fr_w (z_fr_t (z_fr_w (z_fr_r _ _) 139 0 _ rfl) (z_fr_m p1 (fun b k h => by simp at h; simp [h]))) 139 3 _ rfl, fun k hk => by rw [z_w_a _ _ _ _ _ (by decide)]; exact p2 k hk, fun k hk => by rw [z_w_a _ _ _ _ _ (by decide)]; exact p3 k hk⟩
  rw [e_X12_image_139]
  refine p4.trans ?_
  rw [e_X12_image_139_5]
  simp (disch := omega) only [q_bd_l, z_ltT, z_ltF, z_eqT, z_eqF, z_ltlT, z_ltlF, z_lltT, z_lltF, z_eqlT, z_eqlF, z_in, z_k7, z_cl, z_lneg, z_llT, z_llF, z_s1, z_nI_cl, z_nlt0, z_ne_m1, z_b0, z_b1, z_la, z_al, z_lm, z_ml, z_nm, nI_add, pk_mul, ↓reduceIte, not_true_eq_false, not_false_eq_true, true_or, or_true, false_or, or_false, true_and, and_true, and_false, false_and, Classical.not_not, Nat.add_zero, z_01, z_em, z_bit_p, Nat.not_le, Nat.not_lt, reduceCtorEq, if_true, if_false]
theorem l_back9 (X : Sx) (d : Nat) (I : Ii) (T : Tt) (h3 : I 139 3 = 1) : ∃ K, c_X12_back_139 X (d + 1) I T = z_r 1 K T ∧ K 139 6 = 0 ∧ z_fr (fun b k => b == 140 || (b == 139 && (k == 0 || k == 6))) I K ∧ (∀ k, k < 884 → K 140 k = I 141 k) ∧ ∀ k, 884 ≤ k → K 140 k = I 140 k := by
  obtain ⟨K, ⟨p1, p2, p3⟩, p4⟩ := z_foldP (β := Unit) (σ := Ii) (fun k _ K => c_X12_back_139_10 X d (nI k) K T) (fun _ u => u) (fun k _ K => z_fr (fun b _ => b == 140) (q_w I 139 0 0) K ∧ (∀ i, i < k → K 140 i = I 141 i) ∧ ∀ i, k ≤ i → K 140 i = I 140 i) 884 (by
    intro k _ K hk ⟨q1, q2, q3⟩
    have e3 : K 141 k = I 141 k := (q1 141 _ rfl).trans (by rw [z_w_a _ _ _ _ _ (by decide)])
    refine ⟨q_w K 140 k (I 141 k), ⟨z_fr_w q1 140 _ _ rfl, fun i hi => ?_, fun i hi => ?_⟩, ?_⟩
    · by_cases e : i = k
      · subst e; exact z_w_s _ _ _ _
      · rw [z_w_k _ _ _ _ _ e]; exact q2 i (by omega)
    · rw [z_w_k _ _ _ _ _ (by omega)]; exact q3 i (by omega)
    · rw [e_X12_back_139_10]
      simp (disch := omega) only [e3, q_bd_l, z_ltT, z_ltF, z_eqT, z_eqF, z_ltlT, z_ltlF, z_lltT, z_lltF, z_eqlT, z_eqlF, z_in, z_k7, z_cl, z_lneg, z_llT, z_llF, z_s1, z_nI_cl, z_nlt0, z_ne_m1, z_b0, z_b1, z_la, z_al, z_lm, z_ml, z_nm, nI_add, pk_mul, ↓reduceIte, not_true_eq_false, not_false_eq_true, true_or, or_true, false_or, or_false, true_and, and_true, and_false, false_and, Classical.not_not, Nat.add_zero, z_01, z_em, z_bit_p, Nat.not_le, Nat.not_lt, reduceCtorEq, if_true, if_false]) () (q_w I 139 0 0) ⟨z_fr_r _ _, fun i hi => by omega, fun i _ => by rw [z_w_a _ _ _ _ _ (by decide)]⟩
  refine ⟨q_w K 139 6 0, ?_, z_w_s _ _ _ _, z_fr_w (z_fr_t (z_fr_w (z_fr_r _ _) 139 0 _ rfl) (z_fr_m p1 (fun b k h => by simp at h; simp [h]))) 139 6 _ rfl, fun k hk => by rw [z_w_a _ _ _ _ _ (by decide)]; exact p2 k hk, fun k hk => by rw [z_w_a _ _ _ _ _ (by decide)]; exact p3 k hk⟩
  rw [e_X12_back_139]
  simp (disch := omega) only [h3, q_bd_l, z_ltT, z_ltF, z_eqT, z_eqF, z_ltlT, z_ltlF, z_lltT, z_lltF, z_eqlT, z_eqlF, z_in, z_k7, z_cl, z_lneg, z_llT, z_llF, z_s1, z_nI_cl, z_nlt0, z_ne_m1, z_b0, z_b1, z_la, z_al, z_lm, z_ml, z_nm, nI_add, pk_mul, ↓reduceIte, not_true_eq_false, not_false_eq_true, true_or, or_true, false_or, or_false, true_and, and_true, and_false, false_and, Classical.not_not, Nat.add_zero, z_01, z_em, z_bit_p, Nat.not_le, Nat.not_lt, reduceCtorEq, if_true, if_false]
  refine p4.trans ?_
  rw [e_X12_back_139_10]
  simp (disch := omega) only [q_bd_l, z_ltT, z_ltF, z_eqT, z_eqF, z_ltlT, z_ltlF, z_lltT, z_lltF, z_eqlT, z_eqlF, z_in, z_k7, z_cl, z_lneg, z_llT, z_llF, z_s1, z_nI_cl, z_nlt0, z_ne_m1, z_b0, z_b1, z_la, z_al, z_lm, z_ml, z_nm, nI_add, pk_mul, ↓reduceIte, not_true_eq_false, not_false_eq_true, true_or, or_true, false_or, or_false, true_and, and_true, and_false, false_and, Classical.not_not, Nat.add_zero, z_01, z_em, z_bit_p, Nat.not_le, Nat.not_lt, reduceCtorEq, if_true, if_false]
theorem S_43 (X : Sx) (d i : Nat) : S_ok X d i 43 := by
  intro o5 o6 I T hX hi h
  obtain ⟨n, m, G, p, z, H, c, h27, hn, n3, hz⟩ := INV_C h
  obtain ⟨c1, c2, c3, c4, c5, c6⟩ := id c
  obtain ⟨-, ⟨B, N, t1, t2⟩, hi4, o1, o2⟩ := id h
  obtain ⟨q1, q2, q3, q4, ⟨M1, M2, M3, M4, M5⟩, q6, q7⟩ := id c1
  have hm := M1.2.2.2.1
  have e6 : I 27 6 = I 140 11 := by rw [c2]; exact h27.2.2.1.2.2.1
  generalize hv : X.2 (i + 1) = v
  have a1 := k_seed X (d + 49) v I T
  have b1 := l_seed X (d + 49) v (q_w I 27 6 v) T
  rw [e6] at a1
  have w140 : (q_w I 27 6 v) 140 = I 140 := z_w_a _ _ _ _ _ (by decide)
  rw [w140] at b1
  generalize hK : q_w (q_w (q_w I 27 6 v) 139 0 0) 140 11 v = K at b1
  have oth : ∀ a, a ≠ 27 → a ≠ 139 → a ≠ 140 → K a = I a := fun a h1 h2 h3 => by rw [← hK, z_w_a _ _ _ _ _ h3, z_w_a _ _ _ _ _ h2, z_w_a _ _ _ _ _ h1]
  have k27 : ∀ k, k ≠ 6 → K 27 k = I 27 k := fun k hk => by rw [← hK, z_w_a _ _ _ _ _ (by decide), z_w_a _ _ _ _ _ (by decide), z_w_k _ _ _ _ _ hk]
  have k139 : ∀ k, k ≠ 0 → K 139 k = I 139 k := fun k hk => by rw [← hK, z_w_a _ _ _ _ _ (by decide), z_w_k _ _ _ _ _ hk, z_w_a _ _ _ _ _ (by decide)]
  have k140 : K 140 = va_up (H z) 11 v := by
    funext k
    rw [← hK, z_w]
    unfold va_up
    by_cases e : k = 11
    · rw [if_pos ⟨rfl, e⟩, if_pos e]
    · rw [if_neg (fun c => e c.2), if_neg e, z_w_a _ _ _ _ _ (by decide), w140, c2]
  have e2 : K 27 = (q_w I 27 6 v) 27 := by rw [← hK, z_w_a _ _ _ _ _ (by decide), z_w_a _ _ _ _ _ (by decide)]
  have hMo : z_Mo K 27 (va_up (H z) 11 v) n := z_Mo_fr (z_Mo_seed M4 v) (fun a x y => by
    by_cases e : a = 27
    · subst e; exact e2
    · rw [oth a e (by omega) (by omega), z_w_a _ _ _ _ _ e])
  have kS : k_S K n m G p z (k_up z H (va_up (H z) 11 v)) := by
    refine ⟨q1, q2, by rw [oth 64 (by omega) (by omega) (by omega)]; exact q3, by rw [oth 64 (by omega) (by omega) (by omega)]; exact q4, ?_, fun j hj => ?_, q7⟩
    · rw [k_up_s]
      refine ⟨R_ok_A M1 11 (by omega) v, z_Sh_up (z_Sh_fr M2 (fun a x y => oth a (by omega) (by omega) (by omega))) hn hm (by unfold r_mc; omega) v, z_La_cg (z_La_fr M3 (by rw [oth 42 (by omega) (by omega) (by omega)]) (fun a x y => oth a (by omega) (by omega) (by omega))) (z_up_o _ _ (by omega)) (z_up_o _ _ (by omega)) (fun k => z_up_o _ _ (by omega)), hMo, ?_⟩
      refine ⟨by rw [k27 8 (by omega)]; exact M5.1, fun r c hr hr2 hc => ?_⟩
      rw [z_up_o _ _ (by omega)] at hr
      rw [oth 61 (by omega) (by omega) (by omega), z_up_o _ _ (by omega)]
      exact M5.2 r c hr hr2 hc
    · rw [k_up_n _ _ (by omega)]
      have hb := k_at_b p z j
      exact k_M_fr (q6 j hj) (fun a x y => oth a (by omega) (by omega) (by omega)) (by rw [oth 42 (by omega) (by omega) (by omega)]) (fun a x y => oth a (by omega) (by omega) (by omega)) (fun a x y => oth a (by omega) (by omega) (by omega)) (z_Lg_fr (q6 j hj).2.2.2.2 (by rw [oth _ (by omega) (by omega) (by omega)]) (oth 61 (by omega) (by omega) (by omega)))
  refine ⟨K, jy_43 X d i o5 o6 I _ K T _ hX hi (by rw [hv]; exact a1) (by rw [hv]; exact b1), ⟨n, m, G, p, z, _, kS, by rw [k_up_s]; exact k140, by rw [k139 6 (by omega)]; exact c3, fun j hj k hk => by rw [oth 143 (by omega) (by omega) (by omega), k_up_n _ _ (by omega)]; exact c4 j hj k hk, fun j hj k hk => by rw [k_up_n _ _ (by omega), k_up_s, z_up_o _ _ (by omega)]; exact c5 j hj k hk, fun k hk => by rw [k140, z_up_o _ _ (by omega), ← c2]; exact c6 k hk⟩, ⟨B, N, z_Ta_e t1 (by rw [oth 1 (by omega) (by omega) (by omega)]) (oth 2 (by omega) (by omega) (by omega)), z_Tr_e t2 (k139 8 (by omega)) (oth 144 (by omega) (by omega) (by omega))⟩, J_i_e hi4 (by rw [oth 0 (by omega) (by omega) (by omega)]) (k139 3 (by omega)) (oth 141 (by omega) (by omega) (by omega)) (fun a x y => oth a (by omega) (by omega) (by omega)) (fun a x y => oth a (by omega) (by omega) (by omega)) (fun a x y => oth a (by omega) (by omega) (by omega)) (oth 63 (by omega) (by omega) (by omega)), by rw [oth 0 (by omega) (by omega) (by omega), k139 13 (by omega)]; exact o1, by rw [k139 17 (by omega)]; exact o2⟩
theorem S_44 (X : Sx) (d i : Nat) : S_ok X d i 44 := by
  intro o5 o6 I T hX hi h
  obtain ⟨n, m, G, p, z, H, c, h27, hn, n3, hz⟩ := INV_C h
  obtain ⟨c1, c2, c3, c4, c5, c6⟩ := id c
  obtain ⟨-, ⟨B, N, t1, t2⟩, hi4, o1, o2⟩ := id h
  cases z with
  | zero => exact ⟨_, jy_44 X d i o5 o6 I I _ T _ hX hi (k_Xundo0 X (d + 38) I T c1.2.2.2.1) (l_undo0 X (d + 49) I T c3), INV_0 h _⟩
  | succ z =>
    obtain ⟨J, a1, a2, a3⟩ := k_Xundo1 X (d + 38) I T n m G p z H c1
    have hi' := z_ac_hi a2
    obtain ⟨K, b1, b2, b3, b4, b5, b6⟩ := l_undo1 X (d + 49) J T z (by omega) (by rw [hi' 139 (by omega)]; exact c3)
    have b1' : c_X12_undo_139 X (d + 50) J T = z_r 1 K T := b1
    have lo : ∀ a, a ≠ 139 → a ≠ 140 → K a = J a := fun a h1 h2 => funext (fun k => b4 a k (by simp [h1, h2]))
    have k140 : K 140 = H z := by
      funext k
      rcases Nat.lt_or_ge k 484 with hk | hk
      · rw [b5 k hk, hi' 143 (by omega)]; exact c4 z (by omega) k hk
      · rw [b6 k hk, hi' 140 (by omega), c2]; exact (c5 z (by omega) k hk).symm
    have er : ∀ a, (a = 0 ∨ a = 2 ∨ (19 ≤ a ∧ a ≤ 26) ∨ (37 ≤ a ∧ a ≤ 41) ∨ (54 ≤ a ∧ a ≤ 58) ∨ a = 63) → K a = I a := fun a ha => (lo a (by omega) (by omega)).trans (funext (fun k => a2 a k (m_ac_f (by omega))))
    have k139 : ∀ k, k ≠ 0 → k ≠ 6 → K 139 k = I 139 k := fun k h1 h2 => (b4 139 k (by simp [h1, h2])).trans (by rw [hi' 139 (by omega)])
    refine ⟨K, jy_44 X d i o5 o6 I J K T _ hX hi a1 b1', ⟨n, m, G, _, z, H, k_S_ref a3 (fun a ha => lo a (by omega) (by omega)), k140, b2, fun j hj k hk => by rw [lo 143 (by omega) (by omega), hi' 143 (by omega)]; exact c4 j (by omega) k hk, fun j hj k hk => (c5 j (by omega) k hk).trans (c5 z (by omega) k hk).symm, fun k hk => by rw [b6 k (by omega), hi' 140 (by omega)]; exact c6 k hk⟩, ⟨B, N, z_Ta_e t1 (by rw [lo 1 (by omega) (by omega), a2 1 1 (m_ac_f (by omega))]) (er 2 (by omega)), z_Tr_e t2 (k139 8 (by omega) (by omega)) ((lo 144 (by omega) (by omega)).trans (hi' 144 (by omega)))⟩, J_i_e hi4 (by rw [er 0 (by omega)]) (k139 3 (by omega) (by omega)) ((lo 141 (by omega) (by omega)).trans (hi' 141 (by omega))) (fun a x y => er a (by omega)) (fun a x y => er a (by omega)) (fun a x y => er a (by omega)) (er 63 (by omega)), by rw [er 0 (by omega), k139 13 (by omega) (by omega)]; exact o1, by rw [k139 17 (by omega) (by omega)]; exact o2⟩
