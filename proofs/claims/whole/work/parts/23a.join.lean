/-! ===== THE TWO SIDES JOINED ===== -/
theorem j_cmp (x : Int64) : lg_cmp x x = 0 := by
  unfold lg_cmp
  simp
theorem j_tl (T : Tt) (a k : Nat) (v : Int64) : (q_tl T a k v).1 a k = v := by
  unfold q_tl va_up
  simp
theorem j_bt_l (t : List Nat) (v : Option Value) (h : Hp) (k : Option Value → Hp → Rs) : q_bt t (some (.inl v, h)) k = k v h := rfl
theorem j_thrown (X : Sx) (d : Nat) (I : Ii) (T : Tt) : c_X12_thrown_139 X (d + 1) I T = z_r (I 139 0) I T := e_X12_thrown_139 X d I T
theorem j_Wlight1 (X : Sx) (d : Nat) (I : Ii) (T : Tt) (v x : Int32) (J : Ii) (h : c_X11_light_0 X (d + 12) v I T = z_r x J T) : c_L_light_0_150 X (d + 13) v I T = z_r 0 J (q_tl T 150 0 x.toInt64) := by
  rw [e_L_light_0_150, h]
  refine (k_L_light_0_150_5 X (d + 12) v x J T).trans ?_
  exact e_L_light_0_150_5 X (d + 12) v x J T
theorem j_Wlight0 (X : Sx) (d : Nat) (I : Ii) (T : Tt) (v : Int32) (J : Ii) (h : c_X11_light_0 X (d + 12) v I T = z_x 2 J T) : c_L_light_0_150 X (d + 13) v I T = z_r 1 J (q_tt T) := by
  rw [e_L_light_0_150, h]
  rfl
theorem j_light (X : Sx) (d i : Nat) (o5 o6 : Option Value) (I : Ii) (T : Tt) (r : Nat → Int32) (n m : Nat) (hX : X.1 ≤ 3072) (hi : i + 6 ≤ X.1) (h : k_H27 I r n m) (hr : I 140 = r) : ∃ o5' o6' J T', c_L_law__24 X (d + 50) (nI i) o5 o6 7 I T = c_L_law__13 X (d + 50) (nI (i + 6)) o5' o6' J T' ∧ z_fr (fun a k => a == 139 && k == 0) I J ∧ T'.2.1 ≤ T.2.1 + 1 ∧ T'.2.2 ≤ T.2.2 + 6 := by
  rcases z_yn (X.2 (i + 1)) 12 (by omega) with ⟨p, hp, ep⟩ | hv
  · have a1 := j_Wlight1 X (d + 37) I T (X.2 (i + 1)) (r (142 + p)) I (by rw [ep]; exact k_Xlight1 X (d + 37) I T r n m p h hp)
    have a2 := l_light1 X (d + 47) I (q_tl T 150 0 (r (142 + p)).toInt64) p hp
    rw [← ep, hr] at a2
    refine ⟨some (.int 0), some (.int (r (142 + p))), q_w I 139 0 0, q_tl T 150 0 (r (142 + p)).toInt64, ?_, z_fr_w (z_fr_r _ _) 139 0 _ rfl, Nat.le_succ _, Nat.le_add_right _ _⟩
    rw [e_L_law__24_7]
    simp (disch := omega) only [e_L_law__272, e_L_law__280, e_L_law__283, e_L_law__298, e_L_law__1606, k_L_law__272, k_L_law__280, k_L_law__283, a1, a2, q_bn_l, j_thrown, j_cmp, j_tl, z_w_s, q_bd_l, z_ltT, z_ltF, z_eqT, z_eqF, z_ltlT, z_ltlF, z_lltT, z_lltF, z_eqlT, z_eqlF, z_in, z_k7, z_cl, z_lneg, z_llT, z_llF, z_s1, z_nI_cl, z_nlt0, z_ne_m1, z_b0, z_b1, z_la, z_al, z_lm, z_ml, z_nm, nI_add, pk_mul, ↓reduceIte, not_true_eq_false, not_false_eq_true, true_or, or_true, false_or, or_false, true_and, and_true, and_false, false_and, Classical.not_not, Nat.add_zero, z_01, z_em, z_bit_p, Nat.not_le, Nat.not_lt, reduceCtorEq, if_true, if_false]
  · have a1 := j_Wlight0 X (d + 37) I T (X.2 (i + 1)) I (k_Xlight0 X (d + 37) I T _ hv)
    have a2 := l_light0 X (d + 47) (X.2 (i + 1)) I (q_tt T) hv
    refine ⟨some (.int 1), some (.int 0), q_w I 139 0 1, q_tt T, ?_, z_fr_w (z_fr_r _ _) 139 0 _ rfl, Nat.le_refl _, Nat.le_refl _⟩
    rw [e_L_law__24_7]
    simp (disch := omega) only [e_L_law__272, e_L_law__280, e_L_law__283, e_L_law__298, e_L_law__1606, k_L_law__272, k_L_law__280, k_L_law__283, a1, a2, q_bn_l, j_thrown, j_cmp, j_tl, z_w_s, q_bd_l, z_ltT, z_ltF, z_eqT, z_eqF, z_ltlT, z_ltlF, z_lltT, z_lltF, z_eqlT, z_eqlF, z_in, z_k7, z_cl, z_lneg, z_llT, z_llF, z_s1, z_nI_cl, z_nlt0, z_ne_m1, z_b0, z_b1, z_la, z_al, z_lm, z_ml, z_nm, nI_add, pk_mul, ↓reduceIte, not_true_eq_false, not_false_eq_true, true_or, or_true, false_or, or_false, true_and, and_true, and_false, false_and, Classical.not_not, Nat.add_zero, z_01, z_em, z_bit_p, Nat.not_le, Nat.not_lt, reduceCtorEq, if_true, if_false]
