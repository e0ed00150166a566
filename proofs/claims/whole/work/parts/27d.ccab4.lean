/-! ===== THE CLASS READS THE CABINET: lines ===== -/
theorem k_readJar (X : Sx) (d : Nat) (I : Ii) (T : Tt) {B : Nat → Nat} {N p n m : Nat} {r : Nat → Int32} (h : z_Rd I B N p) (hD : k_D I r n m) (ho : R_ok r n m) (hn : n < 10) : z_ck I T B N (C_jar B N n r (t_nx B N p)) (c_X0_readJar_126 X (d + 5) I T) := by
  have i0 : I 11 0 = nI n := hD.1.1.trans ho.1
  obtain ⟨S, s1, s2, s3, -⟩ := k_stepR X (d + 3) I T h
  obtain ⟨L, l1, l2, l3, -⟩ := k_takeLiquid X (d + 1) S T s3
  rw [t_liq_c] at l1 l3
  have hlq := c_lq_le B N (t_nx B N p)
  have fL : z_fr (m_jn n) I L := z_fr_t (z_jn_ta s2) (z_jn_ta l2)
  have DL : k_D L r n m := k_D_jn hD fL
  rw [e_X0_readJar_126, i0, s1]
  unfold C_jar
  generalize t_nx B N p = s at *
  by_cases c1 : c_lq B N s = 3
  · rw [if_pos c1]
    rw [if_neg (by omega)] at l1 l3
    refine z_ck_e (J := L) ?_ l3 (z_jn_rd fL)
    simp (disch := omega) only [e_X0_readJar_126_7, k_X0_readJar_126_7, e_X0_readJar_126_10, k_X0_readJar_126_10, e_X0_readJar_126_23, l1, q_bd_l, z_ltT, z_ltF, z_eqT, z_eqF, z_ltlT, z_ltlF, z_lltT, z_lltF, z_eqlT, z_eqlF, z_in, z_k7, z_cl, z_lneg, z_llT, z_llF, z_s1, z_nI_cl, z_nlt0, z_ne_m1, z_b0, z_b1, z_la, z_al, z_lm, z_ml, z_nm, nI_add, pk_mul, ↓reduceIte, not_true_eq_false, not_false_eq_true, true_or, or_true, false_or, or_false, true_and, and_true, and_false, false_and, Classical.not_not, Nat.add_zero, z_01, z_em, z_bit_p, Nat.not_le, Nat.not_lt, reduceCtorEq, if_true, if_false]
  rw [if_neg c1]
  have cl3 : c_lq B N s < 3 := by omega
  rw [if_pos cl3] at l1 l3
  obtain ⟨-, k2, k3⟩ := k_w X (d + 2) 22 49 (by decide) (by decide +kernel) (by decide +kernel) L T l3
  by_cases c2 : t_isW (t_w 49) B N (t_nx B N s) = true
  rotate_left
  · rw [if_neg c2]
    obtain ⟨A, a1, a2, a3⟩ := k3 c2
    have a1' : c_X10_takeWord_1 X (d + 4) (22 : UInt32) L T = z_r 0 A T := a1
    refine z_ck_e (J := A) ?_ a3 (z_jn_rd (z_fr_t fL (z_jn_ta a2)))
    simp (disch := omega) only [e_X0_readJar_126_7, k_X0_readJar_126_7, e_X0_readJar_126_10, k_X0_readJar_126_10, e_X0_readJar_126_18, k_X0_readJar_126_18, e_X0_readJar_126_23, l1, a1', q_bd_l, z_ltT, z_ltF, z_eqT, z_eqF, z_ltlT, z_ltlF, z_lltT, z_lltF, z_eqlT, z_eqlF, z_in, z_k7, z_cl, z_lneg, z_llT, z_llF, z_s1, z_nI_cl, z_nlt0, z_ne_m1, z_b0, z_b1, z_la, z_al, z_lm, z_ml, z_nm, nI_add, pk_mul, ↓reduceIte, not_true_eq_false, not_false_eq_true, true_or, or_true, false_or, or_false, true_and, and_true, and_false, false_and, Classical.not_not, Nat.add_zero, z_01, z_em, z_bit_p, Nat.not_le, Nat.not_lt, reduceCtorEq, if_true, if_false]
  rw [if_pos c2]
  obtain ⟨A, a1, a2, a3⟩ := k2 c2
  have a1' : c_X10_takeWord_1 X (d + 4) (22 : UInt32) L T = z_r 1 A T := a1
  have fA : z_fr (m_jn n) I A := z_fr_t fL (z_jn_ta a2)
  obtain ⟨f1, f2⟩ := k_free X (d + 1) A T r a3 hn (k_D_jn DL (z_jn_ta a2))
  by_cases c3 : t_isN 0 11 4 B N (t_nx B N (t_nx B N s)) = true
  rotate_left
  · rw [if_neg c3]
    obtain ⟨C, b1, b2, b3⟩ := f2 (fun c => c3 c.1)
    have b1' : c_X0_takeFreePlace_126 X (d + 4) (nI n) A T = z_r 0 C T := b1
    refine z_ck_e (J := C) ?_ b3 (z_jn_rd (z_fr_t fA b2))
    simp (disch := omega) only [e_X0_readJar_126_7, k_X0_readJar_126_7, e_X0_readJar_126_10, k_X0_readJar_126_10, e_X0_readJar_126_18, k_X0_readJar_126_18, e_X0_readJar_126_22, k_X0_readJar_126_22, e_X0_readJar_126_23, l1, a1', b1', q_bd_l, z_ltT, z_ltF, z_eqT, z_eqF, z_ltlT, z_ltlF, z_lltT, z_lltF, z_eqlT, z_eqlF, z_in, z_k7, z_cl, z_lneg, z_llT, z_llF, z_s1, z_nI_cl, z_nlt0, z_ne_m1, z_b0, z_b1, z_la, z_al, z_lm, z_ml, z_nm, nI_add, pk_mul, ↓reduceIte, not_true_eq_false, not_false_eq_true, true_or, or_true, false_or, or_false, true_and, and_true, and_false, false_and, Classical.not_not, Nat.add_zero, z_01, z_em, z_bit_p, Nat.not_le, Nat.not_lt, reduceCtorEq, if_true, if_false]
  rw [if_pos c3]
  by_cases c4 : R_on r n (c_nm B N (t_nx B N (t_nx B N s))) < n
  · rw [if_pos c4]
    obtain ⟨C, b1, b2, b3⟩ := f2 (fun c => c.2 c4)
    have b1' : c_X0_takeFreePlace_126 X (d + 4) (nI n) A T = z_r 0 C T := b1
    refine z_ck_e (J := C) ?_ b3 (z_jn_rd (z_fr_t fA b2))
    simp (disch := omega) only [e_X0_readJar_126_7, k_X0_readJar_126_7, e_X0_readJar_126_10, k_X0_readJar_126_10, e_X0_readJar_126_18, k_X0_readJar_126_18, e_X0_readJar_126_22, k_X0_readJar_126_22, e_X0_readJar_126_23, l1, a1', b1', q_bd_l, z_ltT, z_ltF, z_eqT, z_eqF, z_ltlT, z_ltlF, z_lltT, z_lltF, z_eqlT, z_eqlF, z_in, z_k7, z_cl, z_lneg, z_llT, z_llF, z_s1, z_nI_cl, z_nlt0, z_ne_m1, z_b0, z_b1, z_la, z_al, z_lm, z_ml, z_nm, nI_add, pk_mul, ↓reduceIte, not_true_eq_false, not_false_eq_true, true_or, or_true, false_or, or_false, true_and, and_true, and_false, false_and, Classical.not_not, Nat.add_zero, z_01, z_em, z_bit_p, Nat.not_le, Nat.not_lt, reduceCtorEq, if_true, if_false]
  rw [if_neg c4]
  obtain ⟨C, b1, b2, b3, b4⟩ := f1 c3 c4
  have b1' : c_X0_takeFreePlace_126 X (d + 4) (nI n) A T = z_r 1 C T := b1
  have fin := k_jar2 X d I C T (lq := nI (c_lq B N s)) (pl := c_nm B N (t_nx B N (t_nx B N s))) (z_fr_t fA b2) b3 (k_D_jn (k_D_jn DL (z_jn_ta a2)) b2) ho hn b4
  have st : q_bd (z_v S T) (fun v h' => q_res X q_sb q_pg (d + 4) cd_X0_readJar 7 [some (.ref 126), some (.int (nI n)), none] (v.toList ++ []) h') = c_X0_readJar_126_22 X (d + 4) (nI n) (nI (c_lq B N s)) 1 C T := by
    simp (disch := omega) only [e_X0_readJar_126_7, k_X0_readJar_126_7, e_X0_readJar_126_10, k_X0_readJar_126_10, e_X0_readJar_126_18, k_X0_readJar_126_18, k_X0_readJar_126_22, l1, a1', b1', q_bd_l, z_ltT, z_ltF, z_eqT, z_eqF, z_ltlT, z_ltlF, z_lltT, z_lltF, z_eqlT, z_eqlF, z_in, z_k7, z_cl, z_lneg, z_llT, z_llF, z_s1, z_nI_cl, z_nlt0, z_ne_m1, z_b0, z_b1, z_la, z_al, z_lm, z_ml, z_nm, nI_add, pk_mul, ↓reduceIte, not_true_eq_false, not_false_eq_true, true_or, or_true, false_or, or_false, true_and, and_true, and_false, false_and, Classical.not_not, Nat.add_zero, z_01, z_em, z_bit_p, Nat.not_le, Nat.not_lt, reduceCtorEq, if_true, if_false]
  rw [st]
  exact fin
/-- one number changed in a draft -/
theorem k_D_1 {I : Ii} {r : Nat → Int32} {n m i a k : Nat} {v : Int32} (h : k_D I r n m) (hn : n ≤ 10) (hm : m ≤ 10) (hc : (a = 15 ∧ k < 12 ∧ i = 142 + k) ∨ (a = 11 ∧ k = 9 ∧ i = 5) ∨ (a = 11 ∧ k = 10 ∧ i = 6) ∨ (a = 11 ∧ k = 11 ∧ i = 7)) : k_D (q_w I a k v) (va_up r i v) n m := by
  obtain ⟨⟨s1, s2, s3, s4, s5, s6, s7, s8, s9, s10, s11, s12, s13⟩, hM⟩ := h
  have w : ∀ b j, ¬ (b = a ∧ j = k) → (q_w I a k v) b j = I b j := fun b j hb => by rw [z_w, if_neg hb]
  have hM' : z_Mo (q_w I a k v) 32 r n := z_Mo_fr hM (fun b h1 h2 => z_w_a _ _ _ _ _ (by omega))
  have u : ∀ j, j ≠ i → va_up r i v j = r j := fun j hj => z_up_o _ _ hj
  refine ⟨⟨?_, ?_, ?_, ?_, ?_, ?_, ?_, ?_, ?_, ?_, ?_, ?_, ?_⟩, ?_⟩
  · rw [w _ _ (by omega), u _ (by omega)]; exact s1
  · rw [w _ _ (by omega), u _ (by omega)]; exact s2
  · by_cases e : a = 11 ∧ k = 9
    · obtain ⟨rfl, rfl⟩ := e
      rw [z_w_s, show i = 5 by omega, z_up_s]
    · rw [w _ _ (by omega), u _ (by omega)]; exact s3
  · by_cases e : a = 11 ∧ k = 10
    · obtain ⟨rfl, rfl⟩ := e
      rw [z_w_s, show i = 6 by omega, z_up_s]
    · rw [w _ _ (by omega), u _ (by omega)]; exact s4
  · by_cases e : a = 11 ∧ k = 11
    · obtain ⟨rfl, rfl⟩ := e
      rw [z_w_s, show i = 7 by omega, z_up_s]
    · rw [w _ _ (by omega), u _ (by omega)]; exact s5
  · rw [w _ _ (by omega), u _ (by omega)]; exact s6
  · intro j hj; rw [w _ _ (by omega), u _ (by omega)]; exact s7 j hj
  · intro j hj; rw [w _ _ (by omega), u _ (by omega)]; exact s8 j hj
  · intro j t hj ht; rw [w _ _ (by omega), u _ (by omega)]; exact s9 j t hj ht
  · intro q hq
    by_cases e : a = 15 ∧ q = k
    · obtain ⟨rfl, rfl⟩ := e
      rw [show (11 + 4 : Nat) = 15 from rfl, z_w_s, show i = 142 + q by omega, z_up_s]
    · rw [w _ _ (by omega), u _ (by omega)]; exact s10 q hq
  · intro j hj; rw [w _ _ (by omega), u _ (by omega)]; exact s11 j hj
  · intro j hj; rw [w _ _ (by omega), u _ (by omega)]; exact s12 j hj
  · intro j hj; rw [w _ _ (by omega), u _ (by omega)]; exact s13 j hj
  · obtain ⟨t1, t2, t3, t4, t5, t6, t7, t8, o, t9, t10, t11⟩ := hM'
    exact ⟨by rw [u _ (by omega)]; exact t1, by rw [u _ (by omega)]; exact t2, by rw [u _ (by omega)]; exact t3, by rw [u _ (by omega)]; exact t4, fun j hj => by rw [u _ (by omega)]; exact t5 j hj, fun j hj => by rw [u _ (by omega)]; exact t6 j hj, fun j hj => by rw [u _ (by omega)]; exact t7 j hj, fun j hj => by rw [u _ (by omega)]; exact t8 j hj, o, t9, t10, fun j hj => by rw [u _ (by omega)]; exact t11 j hj⟩
theorem k_D_ta {I J : Ii} {r : Nat → Int32} {n m : Nat} (h : k_D I r n m) (hf : z_fr m_ta I J) : k_D J r n m := k_D_jn h (z_jn_ta hf)
/-- the draft with a need more -/
theorem k_D_nd {I : Ii} {r : Nat → Int32} {n m : Nat} {a b c : Int32} (h : k_D I r n m) (hn : n ≤ 10) (hm : m < 10) : k_D (q_w (q_w (q_w (q_w I 16 m a) 17 m b) 18 m c) 11 5 (nI (m + 1))) (C_nd m a b c r) n (m + 1) := by
  obtain ⟨⟨s1, s2, s3, s4, s5, s6, s7, s8, s9, s10, s11, s12, s13⟩, hM⟩ := h
  obtain ⟨f0, f1, f2, f3⟩ := C_nd_f m a b c r
  have u := C_nd_o m a b c r
  have w : ∀ x j, ¬ (x = 11 ∧ j = 5) → ¬ (x = 18 ∧ j = m) → ¬ (x = 17 ∧ j = m) → ¬ (x = 16 ∧ j = m) → (q_w (q_w (q_w (q_w I 16 m a) 17 m b) 18 m c) 11 5 (nI (m + 1))) x j = I x j := fun x j h1 h2 h3 h4 => by
    rw [z_w, if_neg h1, z_w, if_neg h2, z_w, if_neg h3, z_w, if_neg h4]
  have hM' : z_Mo (q_w (q_w (q_w (q_w I 16 m a) 17 m b) 18 m c) 11 5 (nI (m + 1))) 32 r n := z_Mo_fr hM (fun x h1 h2 => funext (fun j => w x j (by omega) (by omega) (by omega) (by omega)))
  refine ⟨⟨?_, ?_, ?_, ?_, ?_, ?_, ?_, ?_, ?_, ?_, ?_, ?_, ?_⟩, ?_⟩
  · rw [w _ _ (by omega) (by omega) (by omega) (by omega), u _ (by omega) (by omega)]; exact s1
  · rw [z_w_s, f0]
  · rw [w _ _ (by omega) (by omega) (by omega) (by omega), u _ (by omega) (by omega)]; exact s3
  · rw [w _ _ (by omega) (by omega) (by omega) (by omega), u _ (by omega) (by omega)]; exact s4
  · rw [w _ _ (by omega) (by omega) (by omega) (by omega), u _ (by omega) (by omega)]; exact s5
  · rw [w _ _ (by omega) (by omega) (by omega) (by omega), u _ (by omega) (by omega)]; exact s6
  · intro j hj; rw [w _ _ (by omega) (by omega) (by omega) (by omega), u _ (by omega) (by omega)]; exact s7 j hj
  · intro j hj; rw [w _ _ (by omega) (by omega) (by omega) (by omega), u _ (by omega) (by omega)]; exact s8 j hj
  · intro j t hj ht; rw [w _ _ (by omega) (by omega) (by omega) (by omega), u _ (by omega) (by omega)]; exact s9 j t hj ht
  · intro j hj; rw [w _ _ (by omega) (by omega) (by omega) (by omega), u _ (by omega) (by omega)]; exact s10 j hj
  · intro j hj
    by_cases e : j = m
    · subst e
      rw [f1, z_w, if_neg (by omega), z_w, if_neg (by omega), z_w, if_neg (by omega), z_w, if_pos ⟨rfl, rfl⟩]
    · rw [w _ _ (by omega) (by omega) (by omega) (by omega), u _ (by omega) (by omega)]; exact s11 j (by omega)
  · intro j hj
    by_cases e : j = m
    · subst e
      rw [f2, z_w, if_neg (by omega), z_w, if_neg (by omega), z_w, if_pos ⟨rfl, rfl⟩]
    · rw [w _ _ (by omega) (by omega) (by omega) (by omega), u _ (by omega) (by omega)]; exact s12 j (by omega)
  · intro j hj
    by_cases e : j = m
    · subst e
      rw [f3, z_w, if_neg (by omega), z_w, if_pos ⟨rfl, rfl⟩]
    · rw [w _ _ (by omega) (by omega) (by omega) (by omega), u _ (by omega) (by omega)]; exact s13 j (by omega)
  · obtain ⟨t1, t2, t3, t4, t5, t6, t7, t8, o, t9, t10, t11⟩ := hM'
    exact ⟨by rw [u _ (by omega) (by omega)]; exact t1, by rw [u _ (by omega) (by omega)]; exact t2, by rw [u _ (by omega) (by omega)]; exact t3, by rw [u _ (by omega) (by omega)]; exact t4, fun j hj => by rw [u _ (by omega) (by omega)]; exact t5 j hj, fun j hj => by rw [u _ (by omega) (by omega)]; exact t6 j hj, fun j hj => by rw [u _ (by omega) (by omega)]; exact t7 j hj, fun j hj => by rw [u _ (by omega) (by omega)]; exact t8 j hj, o, t9, t10, fun j hj => by rw [u _ (by omega) (by omega)]; exact t11 j hj⟩
theorem k_D_cg {I J : Ii} {r : Nat → Int32} {n m : Nat} (h : k_D I r n m) (hf : ∀ a k, a ≠ 1 → J a k = I a k) : k_D J r n m := ⟨z_Sh_fr h.1 (fun a h1 _ => funext (fun k => hf a k (by omega))), z_Mo_fr h.2 (fun a h1 _ => funext (fun k => hf a k (by omega)))⟩
