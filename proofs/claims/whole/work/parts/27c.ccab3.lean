/-! ===== THE CLASS READS THE CABINET: a jar's line ===== -/
theorem t_liq_c (B : Nat → Nat) (N p : Nat) : t_liq B N p = c_lq B N p := by
  have h1 : q_sb.getD 42 [] = t_w 45 := by decide +kernel
  have h2 : q_sb.getD 43 [] = t_w 46 := by decide +kernel
  have h3 : q_sb.getD 44 [] = t_w 47 := by decide +kernel
  unfold t_liq c_lq
  rw [h1, h2, h3]
theorem m_jn_i {n : Nat} (a : Nat) (ha : a = 12 ∨ a = 13 ∨ a = 33 ∨ a = 34 ∨ a = 35 ∨ a = 36) : m_jn n a n = true := by
  rcases ha with h | h | h | h | h | h <;> subst h <;> simp [m_jn]
/-- from the seal's number on -/
theorem k_jar3 (X : Sx) (d : Nat) (I0 I : Ii) (T : Tt) {B : Nat → Nat} {N p n m : Nat} {r : Nat → Int32} {lq pl sp so : Int32} (hf : z_fr (m_jn n) I0 I) (h : z_Rd I B N p) (hD : k_D I r n m) (ho : R_ok r n m) (hn : n < 10) (c33 : I 33 n = pl) (c34 : I 34 n = sp) (c35 : I 35 n = so) : z_ck I0 T B N (C_jar3 B N n lq pl sp so (I 1 6) r p) (c_X0_readJar_126_74 X (d + 4) (nI n) lq 1 I T) := by
  have hp := h.2.1.1
  have h1 := z_Rd_w h 13 n (I 1 6) (by omega)
  obtain ⟨k1, k2, k3⟩ := k_w X (d + 2) 26 48 (by decide) (by decide +kernel) (by decide +kernel) _ T h1
  have f1 : z_fr (m_jn n) I0 (q_w I 13 n (I 1 6)) := z_fr_w hf 13 n _ (m_jn_i 13 (by simp))
  have D1 : k_D (q_w I 13 n (I 1 6)) r n m := k_D_jn hD (z_fr_w (z_fr_r _ _) 13 n _ (m_jn_i 13 (by simp)))
  rw [e_X0_readJar_126_74]
  unfold C_jar3
  by_cases c1 : t_isW (t_w 48) B N p = true
  · rw [if_pos c1]
    obtain ⟨A, a1, a2, a3⟩ := k2 c1
    have a1' : c_X10_takeWord_1 X (d + 4) (26 : UInt32) (q_w I 13 n (I 1 6)) T = z_r 1 A T := a1
    obtain ⟨v1, v2⟩ := k_views X (d + 1) A T a3 hn
    by_cases c2 : t_nf B N (t_nx B N p) = 6
    · rw [if_pos c2]
      obtain ⟨V, w1, w2, w3, w4⟩ := v1 c2
      refine ⟨fun q1 r' e n' m' ho' => ?_, fun e he => (by cases he)⟩
      cases e
      have fV : z_fr (m_jn n) I0 V := z_fr_t f1 (z_fr_t (z_jn_ta a2) (z_fr_m w2 (fun a k h => by
        simp only [Bool.or_eq_true, Bool.and_eq_true] at h
        rcases h with h | ⟨h, h2⟩
        · simp [m_jn, h]
        · simp [m_jn, h, h2])))
      have cell : ∀ a, a ≠ 1 → a ≠ 14 → V a n = (q_w I 13 n (I 1 6)) a n := fun a h1 h14 => by
        rw [w2 a n (by simp [m_ta, h1, h14]), a2 a n (by simp [m_ta, h1])]
      have fW : z_fr (m_jn n) I0 (q_w (q_w V 12 n lq) 36 n (nI n)) := z_fr_w (z_fr_w fV 12 n _ (m_jn_i 12 (by simp))) 36 n _ (m_jn_i 36 (by simp))
      have DW : k_D (q_w (q_w V 12 n lq) 36 n (nI n)) r n m := k_D_jn hD (by
        refine fun a k hm => ?_
        have hm2 := hm
        rw [z_w, z_w]
        have e1 : ¬ (a = 36 ∧ k = n) := fun c => by rw [c.1, c.2, m_jn_i 36 (by simp)] at hm; cases hm
        have e2 : ¬ (a = 12 ∧ k = n) := fun c => by rw [c.1, c.2, m_jn_i 12 (by simp)] at hm; cases hm
        have e3 : ¬ (a = 13 ∧ k = n) := fun c => by rw [c.1, c.2, m_jn_i 13 (by simp)] at hm; cases hm
        rw [if_neg e1, if_neg e2]
        have m1 : m_ta a k = false := by
          cases e : m_ta a k
          · rfl
          · simp [m_jn, e] at hm
        have m2 : (a == 14 && Nat.ble (n * 6) k) = false := by
          cases e : (a == 14 && Nat.ble (n * 6) k)
          · rfl
          · rw [m_jn, e] at hm; simp at hm
        rw [w2 a k (by show (m_ta a k || (a == 14 && Nat.ble (n * 6) k)) = false; rw [m1, m2]; rfl), a2 a k m1, z_w, if_neg e3])
      obtain ⟨o, o1, o2, o3⟩ := DW.2.2.2.2.2.2.2.2.2
      have lid := z_lidn o1 hn
      have put := k_D_put (B := B) (p := t_nx B N p) (lq := lq) (pl := pl) (sp := sp) (so := so) (se := I 1 6) DW hn ho.2.2.2.1 (by rw [z_w_a _ _ _ _ _ (by decide), z_w_s]) (by rw [z_w_a _ _ _ _ _ (by decide), z_w_a _ _ _ _ _ (by decide), cell 13 (by omega) (by omega), z_w_s]) (fun t ht => by rw [z_w_a _ _ _ _ _ (by decide), z_w_a _ _ _ _ _ (by decide)]; exact w4 t ht) (by rw [z_w_a _ _ _ _ _ (by decide), z_w_a _ _ _ _ _ (by decide), cell 33 (by omega) (by omega), z_w_a _ _ _ _ _ (by decide)]; exact c33) (by rw [z_w_a _ _ _ _ _ (by decide), z_w_a _ _ _ _ _ (by decide), cell 34 (by omega) (by omega), z_w_a _ _ _ _ _ (by decide)]; exact c34) (by rw [z_w_a _ _ _ _ _ (by decide), z_w_a _ _ _ _ _ (by decide), cell 35 (by omega) (by omega), z_w_a _ _ _ _ _ (by decide)]; exact c35) (z_w_s _ _ _ _)
      have hnm : n' = n + 1 ∧ m' = m := by
        have e3 := ho'.1
        have e4 := ho'.2.2.1
        rw [C_put_3] at e3
        rw [C_put_o _ _ _ _ _ _ _ _ _ 4 (by omega) (by omega), ho.2.2.1] at e4
        have g1 := ho'.2.1
        have g2 := ho'.2.2.2.1
        have g3 := ho.2.2.2.1
        have e3' : (nI (n + 1) = nI n') = _ := z_nI_eq _ _ (by omega) (by omega)
        have e4' : (nI m = nI m') = _ := z_nI_eq _ _ (by omega) (by omega)
        exact ⟨(e3'.mp e3).symm, (e4'.mp e4).symm⟩
      rw [hnm.1, hnm.2]
      refine ⟨q_w (q_w (q_w V 12 n lq) 36 n (nI n)) 11 0 (nI (n + 1)), ?_, z_Rd_w (z_Rd_w (z_Rd_w w3 12 _ _ (by omega)) 36 _ _ (by omega)) 11 _ _ (by omega), put, z_fr_w (z_jn_rd fW) 11 0 _ rfl⟩
      have lidw : q_w (q_w (q_w V 12 n lq) 36 n (nI n)) 32 4 ((q_w (q_w V 12 n lq) 36 n (nI n)) 32 4 &&& (((1 : Int32) <<< (nI n &&& 31)) ^^^ (-1))) = q_w (q_w V 12 n lq) 36 n (nI n) := by
        rw [o2, lid]
        exact z_w_id o2
      have w1' : c_X0_takeViews_126 X (d + 4) (nI n) A T = z_r 1 V T := w1
      simp (disch := omega) only [e_X0_readJar_126_89, k_X0_readJar_126_89, e_X0_readJar_126_93, k_X0_readJar_126_93, e_X0_readJar_126_112, k_X0_readJar_126_112, e_X7_putLidOn_32, a1', w1', lidw, q_bd_l, z_ltT, z_ltF, z_eqT, z_eqF, z_ltlT, z_ltlF, z_lltT, z_lltF, z_eqlT, z_eqlF, z_in, z_k7, z_cl, z_lneg, z_llT, z_llF, z_s1, z_nI_cl, z_nlt0, z_ne_m1, z_b0, z_b1, z_la, z_al, z_lm, z_ml, z_nm, nI_add, pk_mul, ↓reduceIte, not_true_eq_false, not_false_eq_true, true_or, or_true, false_or, or_false, true_and, and_true, and_false, false_and, Classical.not_not, Nat.add_zero, z_01, z_em, z_bit_p, Nat.not_le, Nat.not_lt, reduceCtorEq, if_true, if_false]
    · rw [if_neg c2]
      have v2' : c_X0_takeViews_126 X (d + 4) (nI n) A T = z_r 0 A T := v2 c2
      refine z_ck_e (J := A) ?_ a3 (z_jn_rd (z_fr_t f1 (z_jn_ta a2)))
      simp (disch := omega) only [e_X0_readJar_126_89, k_X0_readJar_126_89, e_X0_readJar_126_93, k_X0_readJar_126_93, e_X0_readJar_126_94, a1', v2', q_bd_l, z_ltT, z_ltF, z_eqT, z_eqF, z_ltlT, z_ltlF, z_lltT, z_lltF, z_eqlT, z_eqlF, z_in, z_k7, z_cl, z_lneg, z_llT, z_llF, z_s1, z_nI_cl, z_nlt0, z_ne_m1, z_b0, z_b1, z_la, z_al, z_lm, z_ml, z_nm, nI_add, pk_mul, ↓reduceIte, not_true_eq_false, not_false_eq_true, true_or, or_true, false_or, or_false, true_and, and_true, and_false, false_and, Classical.not_not, Nat.add_zero, z_01, z_em, z_bit_p, Nat.not_le, Nat.not_lt, reduceCtorEq, if_true, if_false]
  · rw [if_neg c1]
    obtain ⟨A, a1, a2, a3⟩ := k3 c1
    have a1' : c_X10_takeWord_1 X (d + 4) (26 : UInt32) (q_w I 13 n (I 1 6)) T = z_r 0 A T := a1
    refine z_ck_e (J := A) ?_ a3 (z_jn_rd (z_fr_t f1 (z_jn_ta a2)))
    simp (disch := omega) only [e_X0_readJar_126_89, k_X0_readJar_126_89, e_X0_readJar_126_94, a1', q_bd_l, z_ltT, z_ltF, z_eqT, z_eqF, z_ltlT, z_ltlF, z_lltT, z_lltF, z_eqlT, z_eqlF, z_in, z_k7, z_cl, z_lneg, z_llT, z_llF, z_s1, z_nI_cl, z_nlt0, z_ne_m1, z_b0, z_b1, z_la, z_al, z_lm, z_ml, z_nm, nI_add, pk_mul, ↓reduceIte, not_true_eq_false, not_false_eq_true, true_or, or_true, false_or, or_false, true_and, and_true, and_false, false_and, Classical.not_not, Nat.add_zero, z_01, z_em, z_bit_p, Nat.not_le, Nat.not_lt, reduceCtorEq, if_true, if_false]
/-- from the place on -/
theorem k_jar2 (X : Sx) (d : Nat) (I0 I : Ii) (T : Tt) {B : Nat → Nat} {N p n m : Nat} {r : Nat → Int32} {lq pl : Int32} (hf : z_fr (m_jn n) I0 I) (h : z_Rd I B N p) (hD : k_D I r n m) (ho : R_ok r n m) (hn : n < 10) (c33 : I 33 n = pl) : z_ck I0 T B N (C_jar2 B N n lq pl r p) (c_X0_readJar_126_22 X (d + 4) (nI n) lq 1 I T) := by
  rw [e_X0_readJar_126_22]
  unfold C_jar2 C_aft
  obtain ⟨-, k2, k3⟩ := k_w X (d + 2) 23 50 (by decide) (by decide +kernel) (by decide +kernel) I T h
  by_cases c1 : t_isW (t_w 50) B N p = true
  rotate_left
  · rw [if_neg c1]
    obtain ⟨A, a1, a2, a3⟩ := k3 c1
    have a1' : c_X10_takeWord_1 X (d + 4) (23 : UInt32) I T = z_r 0 A T := a1
    refine z_ck_e (J := A) ?_ a3 (z_jn_rd (z_fr_t hf (z_jn_ta a2)))
    simp (disch := omega) only [e_X0_readJar_126_29, k_X0_readJar_126_29, e_X0_readJar_126_35, a1', q_bd_l, z_ltT, z_ltF, z_eqT, z_eqF, z_ltlT, z_ltlF, z_lltT, z_lltF, z_eqlT, z_eqlF, z_in, z_k7, z_cl, z_lneg, z_llT, z_llF, z_s1, z_nI_cl, z_nlt0, z_ne_m1, z_b0, z_b1, z_la, z_al, z_lm, z_ml, z_nm, nI_add, pk_mul, ↓reduceIte, not_true_eq_false, not_false_eq_true, true_or, or_true, false_or, or_false, true_and, and_true, and_false, false_and, Classical.not_not, Nat.add_zero, z_01, z_em, z_bit_p, Nat.not_le, Nat.not_lt, reduceCtorEq, if_true, if_false]
  rw [if_pos c1]
  obtain ⟨A, a1, a2, a3⟩ := k2 c1
  have a1' : c_X10_takeWord_1 X (d + 4) (23 : UInt32) I T = z_r 1 A T := a1
  have fA := z_fr_t hf (z_jn_ta (n := n) a2)
  obtain ⟨n1, n2⟩ := k_num X (d + 1) 0 20 A T a3
  by_cases c2 : t_isN 0 20 4 B N (t_nx B N p) = true
  rotate_left
  · rw [if_neg c2]
    obtain ⟨C, b1, b2, b3⟩ := n2 c2
    have b1' : c_X0_takeNumber_126 X (d + 4) 0 20 A T = z_r 0 C T := b1
    refine z_ck_e (J := C) ?_ b3 (z_jn_rd (z_fr_t fA (z_jn_ta b2)))
    simp (disch := omega) only [e_X0_readJar_126_29, k_X0_readJar_126_29, e_X0_readJar_126_34, k_X0_readJar_126_34, e_X0_readJar_126_35, a1', b1', q_bd_l, z_ltT, z_ltF, z_eqT, z_eqF, z_ltlT, z_ltlF, z_lltT, z_lltF, z_eqlT, z_eqlF, z_in, z_k7, z_cl, z_lneg, z_llT, z_llF, z_s1, z_nI_cl, z_nlt0, z_ne_m1, z_b0, z_b1, z_la, z_al, z_lm, z_ml, z_nm, nI_add, pk_mul, ↓reduceIte, not_true_eq_false, not_false_eq_true, true_or, or_true, false_or, or_false, true_and, and_true, and_false, false_and, Classical.not_not, Nat.add_zero, z_01, z_em, z_bit_p, Nat.not_le, Nat.not_lt, reduceCtorEq, if_true, if_false]
  rw [if_pos c2]
  obtain ⟨C, b1, b2, b3, b4⟩ := n1 c2
  have b1' : c_X0_takeNumber_126 X (d + 4) 0 20 A T = z_r 1 C T := b1
  dsimp only
  generalize hP : t_nx B N p = pa at *
  -- spoons are put
  have h2 := z_Rd_w b3 34 n (C 1 6) (by omega)
  have f2 : z_fr (m_jn n) I0 (q_w C 34 n (C 1 6)) := z_fr_w (z_fr_t fA (z_jn_ta b2)) 34 n _ (m_jn_i 34 (by simp))
  have st : (if (1 : Int32) = 0 then c_X0_readJar_126_23 X (d + 4) (nI n) lq I T else q_bd (c_X10_takeWord_1 X (d + 4) 23 I T) (fun v h' => q_res X q_sb q_pg (d + 4) cd_X0_readJar 29 [some (.ref 126), some (.int (nI n)), some (.int lq)] (v.toList ++ []) h')) = q_bd (c_X10_takeWord_1 X (d + 4) 24 (q_w C 34 n (C 1 6)) T) (fun v h' => q_res X q_sb q_pg (d + 4) cd_X0_readJar 49 [some (.ref 126), some (.int (nI n)), some (.int lq)] (v.toList ++ []) h') := by
    simp (disch := omega) only [e_X0_readJar_126_29, k_X0_readJar_126_29, e_X0_readJar_126_34, k_X0_readJar_126_34, a1', b1', q_bd_l, z_ltT, z_ltF, z_eqT, z_eqF, z_ltlT, z_ltlF, z_lltT, z_lltF, z_eqlT, z_eqlF, z_in, z_k7, z_cl, z_lneg, z_llT, z_llF, z_s1, z_nI_cl, z_nlt0, z_ne_m1, z_b0, z_b1, z_la, z_al, z_lm, z_ml, z_nm, nI_add, pk_mul, ↓reduceIte, not_true_eq_false, not_false_eq_true, true_or, or_true, false_or, or_false, true_and, and_true, and_false, false_and, Classical.not_not, Nat.add_zero, z_01, z_em, z_bit_p, Nat.not_le, Nat.not_lt, reduceCtorEq, if_true, if_false]
  rw [st]
  have cell2 : ∀ a, a ≠ 1 → a ≠ 34 → (q_w C 34 n (C 1 6)) a n = I a n := fun a h1 h34 => by
    rw [z_w_a _ _ _ _ _ h34, b2 a n (m_ta_a h1), a2 a n (m_ta_a h1)]
  have D2 : k_D (q_w C 34 n (C 1 6)) r n m := k_D_jn hD (z_fr_w (z_fr_t (z_jn_ta a2) (z_jn_ta b2)) 34 n _ (m_jn_i 34 (by simp)))
  have g34 : (q_w C 34 n (C 1 6)) 34 n = c_nm B N pa := by rw [z_w_s]; exact b4
  have g33 : (q_w C 34 n (C 1 6)) 33 n = pl := by rw [cell2 33 (by omega) (by omega)]; exact c33
  generalize q_w C 34 n (C 1 6) = I2 at *
  clear st a1' a1 a2 a3 n1 n2 b1 b1' b2 b3 b4 fA cell2 k2 k3
  obtain ⟨-, k2, k3⟩ := k_w X (d + 2) 24 51 (by decide) (by decide +kernel) (by decide +kernel) I2 T h2
  by_cases c3 : t_isW (t_w 51) B N (t_nx B N pa) = true
  rotate_left
  · rw [if_neg c3]
    obtain ⟨A, a1, a2, a3⟩ := k3 c3
    have a1' : c_X10_takeWord_1 X (d + 4) (24 : UInt32) I2 T = z_r 0 A T := a1
    refine z_ck_e (J := A) ?_ a3 (z_jn_rd (z_fr_t f2 (z_jn_ta a2)))
    simp (disch := omega) only [e_X0_readJar_126_49, k_X0_readJar_126_49, e_X0_readJar_126_55, a1', q_bd_l, z_ltT, z_ltF, z_eqT, z_eqF, z_ltlT, z_ltlF, z_lltT, z_lltF, z_eqlT, z_eqlF, z_in, z_k7, z_cl, z_lneg, z_llT, z_llF, z_s1, z_nI_cl, z_nlt0, z_ne_m1, z_b0, z_b1, z_la, z_al, z_lm, z_ml, z_nm, nI_add, pk_mul, ↓reduceIte, not_true_eq_false, not_false_eq_true, true_or, or_true, false_or, or_false, true_and, and_true, and_false, false_and, Classical.not_not, Nat.add_zero, z_01, z_em, z_bit_p, Nat.not_le, Nat.not_lt, reduceCtorEq, if_true, if_false]
  rw [if_pos c3]
  obtain ⟨A, a1, a2, a3⟩ := k2 c3
  have a1' : c_X10_takeWord_1 X (d + 4) (24 : UInt32) I2 T = z_r 1 A T := a1
  have fA := z_fr_t f2 (z_jn_ta (n := n) a2)
  obtain ⟨n1, n2⟩ := k_num X (d + 1) 0 99 A T a3
  by_cases c4 : t_isN 0 99 4 B N (t_nx B N (t_nx B N pa)) = true
  rotate_left
  · rw [if_neg c4]
    obtain ⟨C, b1, b2, b3⟩ := n2 c4
    have b1' : c_X0_takeNumber_126 X (d + 4) 0 99 A T = z_r 0 C T := b1
    refine z_ck_e (J := C) ?_ b3 (z_jn_rd (z_fr_t fA (z_jn_ta b2)))
    simp (disch := omega) only [e_X0_readJar_126_49, k_X0_readJar_126_49, e_X0_readJar_126_54, k_X0_readJar_126_54, e_X0_readJar_126_55, a1', b1', q_bd_l, z_ltT, z_ltF, z_eqT, z_eqF, z_ltlT, z_ltlF, z_lltT, z_lltF, z_eqlT, z_eqlF, z_in, z_k7, z_cl, z_lneg, z_llT, z_llF, z_s1, z_nI_cl, z_nlt0, z_ne_m1, z_b0, z_b1, z_la, z_al, z_lm, z_ml, z_nm, nI_add, pk_mul, ↓reduceIte, not_true_eq_false, not_false_eq_true, true_or, or_true, false_or, or_false, true_and, and_true, and_false, false_and, Classical.not_not, Nat.add_zero, z_01, z_em, z_bit_p, Nat.not_le, Nat.not_lt, reduceCtorEq, if_true, if_false]
  rw [if_pos c4]
  obtain ⟨C, b1, b2, b3, b4⟩ := n1 c4
  have b1' : c_X0_takeNumber_126 X (d + 4) 0 99 A T = z_r 1 C T := b1
  dsimp only
  generalize hQ : t_nx B N (t_nx B N pa) = pb at *
  have h3 := z_Rd_w b3 35 n (C 1 6) (by omega)
  have f3 : z_fr (m_jn n) I0 (q_w C 35 n (C 1 6)) := z_fr_w (z_fr_t fA (z_jn_ta b2)) 35 n _ (m_jn_i 35 (by simp))
  have st : q_bd (c_X10_takeWord_1 X (d + 4) 24 I2 T) (fun v h' => q_res X q_sb q_pg (d + 4) cd_X0_readJar 49 [some (.ref 126), some (.int (nI n)), some (.int lq)] (v.toList ++ []) h') = q_bd (c_X10_takeWord_1 X (d + 4) 25 (q_w C 35 n (C 1 6)) T) (fun v h' => q_res X q_sb q_pg (d + 4) cd_X0_readJar 69 [some (.ref 126), some (.int (nI n)), some (.int lq)] (v.toList ++ []) h') := by
    simp (disch := omega) only [e_X0_readJar_126_49, k_X0_readJar_126_49, e_X0_readJar_126_54, k_X0_readJar_126_54, a1', b1', q_bd_l, z_ltT, z_ltF, z_eqT, z_eqF, z_ltlT, z_ltlF, z_lltT, z_lltF, z_eqlT, z_eqlF, z_in, z_k7, z_cl, z_lneg, z_llT, z_llF, z_s1, z_nI_cl, z_nlt0, z_ne_m1, z_b0, z_b1, z_la, z_al, z_lm, z_ml, z_nm, nI_add, pk_mul, ↓reduceIte, not_true_eq_false, not_false_eq_true, true_or, or_true, false_or, or_false, true_and, and_true, and_false, false_and, Classical.not_not, Nat.add_zero, z_01, z_em, z_bit_p, Nat.not_le, Nat.not_lt, reduceCtorEq, if_true, if_false]
  rw [st]
  have cell2 : ∀ a, a ≠ 1 → a ≠ 35 → (q_w C 35 n (C 1 6)) a n = I2 a n := fun a h1 h34 => by
    rw [z_w_a _ _ _ _ _ h34, b2 a n (m_ta_a h1), a2 a n (m_ta_a h1)]
  have D3 : k_D (q_w C 35 n (C 1 6)) r n m := k_D_jn D2 (z_fr_w (z_fr_t (z_jn_ta a2) (z_jn_ta b2)) 35 n _ (m_jn_i 35 (by simp)))
  have g35' : (q_w C 35 n (C 1 6)) 35 n = c_nm B N pb := by rw [z_w_s]; exact b4
  have g34' : (q_w C 35 n (C 1 6)) 34 n = c_nm B N pa := by rw [cell2 34 (by omega) (by omega)]; exact g34
  have g33' : (q_w C 35 n (C 1 6)) 33 n = pl := by rw [cell2 33 (by omega) (by omega)]; exact g33
  generalize q_w C 35 n (C 1 6) = I3 at *
  clear st a1' a1 a2 a3 n1 n2 b1 b1' b2 b3 b4 fA cell2 k2 k3
  obtain ⟨-, k2, k3⟩ := k_w X (d + 2) 25 52 (by decide) (by decide +kernel) (by decide +kernel) I3 T h3
  by_cases c5 : t_isW (t_w 52) B N (t_nx B N pb) = true
  rotate_left
  · rw [if_neg c5]
    obtain ⟨A, a1, a2, a3⟩ := k3 c5
    have a1' : c_X10_takeWord_1 X (d + 4) (25 : UInt32) I3 T = z_r 0 A T := a1
    refine z_ck_e (J := A) ?_ a3 (z_jn_rd (z_fr_t f3 (z_jn_ta a2)))
    simp (disch := omega) only [e_X0_readJar_126_69, k_X0_readJar_126_69, e_X0_readJar_126_75, a1', q_bd_l, z_ltT, z_ltF, z_eqT, z_eqF, z_ltlT, z_ltlF, z_lltT, z_lltF, z_eqlT, z_eqlF, z_in, z_k7, z_cl, z_lneg, z_llT, z_llF, z_s1, z_nI_cl, z_nlt0, z_ne_m1, z_b0, z_b1, z_la, z_al, z_lm, z_ml, z_nm, nI_add, pk_mul, ↓reduceIte, not_true_eq_false, not_false_eq_true, true_or, or_true, false_or, or_false, true_and, and_true, and_false, false_and, Classical.not_not, Nat.add_zero, z_01, z_em, z_bit_p, Nat.not_le, Nat.not_lt, reduceCtorEq, if_true, if_false]
  rw [if_pos c5]
  obtain ⟨A, a1, a2, a3⟩ := k2 c5
  have a1' : c_X10_takeWord_1 X (d + 4) (25 : UInt32) I3 T = z_r 1 A T := a1
  have fA := z_fr_t f3 (z_jn_ta (n := n) a2)
  obtain ⟨n1, n2⟩ := k_num X (d + 1) 0 9 A T a3
  by_cases c6 : t_isN 0 9 4 B N (t_nx B N (t_nx B N pb)) = true
  rotate_left
  · rw [if_neg c6]
    obtain ⟨C, b1, b2, b3⟩ := n2 c6
    have b1' : c_X0_takeNumber_126 X (d + 4) 0 9 A T = z_r 0 C T := b1
    refine z_ck_e (J := C) ?_ b3 (z_jn_rd (z_fr_t fA (z_jn_ta b2)))
    simp (disch := omega) only [e_X0_readJar_126_69, k_X0_readJar_126_69, e_X0_readJar_126_74, k_X0_readJar_126_74, e_X0_readJar_126_75, a1', b1', q_bd_l, z_ltT, z_ltF, z_eqT, z_eqF, z_ltlT, z_ltlF, z_lltT, z_lltF, z_eqlT, z_eqlF, z_in, z_k7, z_cl, z_lneg, z_llT, z_llF, z_s1, z_nI_cl, z_nlt0, z_ne_m1, z_b0, z_b1, z_la, z_al, z_lm, z_ml, z_nm, nI_add, pk_mul, ↓reduceIte, not_true_eq_false, not_false_eq_true, true_or, or_true, false_or, or_false, true_and, and_true, and_false, false_and, Classical.not_not, Nat.add_zero, z_01, z_em, z_bit_p, Nat.not_le, Nat.not_lt, reduceCtorEq, if_true, if_false]
  rw [if_pos c6]
  obtain ⟨C, b1, b2, b3, b4⟩ := n1 c6
  have b1' : c_X0_takeNumber_126 X (d + 4) 0 9 A T = z_r 1 C T := b1
  dsimp only
  have cell3 : ∀ a, a ≠ 1 → C a n = I3 a n := fun a h1 => by rw [b2 a n (m_ta_a h1), a2 a n (m_ta_a h1)]
  have fin := k_jar3 X d I0 C T (lq := lq) (pl := pl) (sp := c_nm B N pa) (so := c_nm B N pb) (z_fr_t fA (z_jn_ta b2)) b3 (k_D_jn D3 (z_fr_t (z_jn_ta a2) (z_jn_ta b2))) ho hn (by rw [cell3 33 (by omega)]; exact g33') (by rw [cell3 34 (by omega)]; exact g34') (by rw [cell3 35 (by omega)]; exact g35')
  rw [b4] at fin
  have st : q_bd (c_X10_takeWord_1 X (d + 4) 25 I3 T) (fun v h' => q_res X q_sb q_pg (d + 4) cd_X0_readJar 69 [some (.ref 126), some (.int (nI n)), some (.int lq)] (v.toList ++ []) h') = c_X0_readJar_126_74 X (d + 4) (nI n) lq 1 C T := by
    simp (disch := omega) only [e_X0_readJar_126_69, k_X0_readJar_126_69, k_X0_readJar_126_74, a1', b1', q_bd_l, z_ltT, z_ltF, z_eqT, z_eqF, z_ltlT, z_ltlF, z_lltT, z_lltF, z_eqlT, z_eqlF, z_in, z_k7, z_cl, z_lneg, z_llT, z_llF, z_s1, z_nI_cl, z_nlt0, z_ne_m1, z_b0, z_b1, z_la, z_al, z_lm, z_ml, z_nm, nI_add, pk_mul, ↓reduceIte, not_true_eq_false, not_false_eq_true, true_or, or_true, false_or, or_false, true_and, and_true, and_false, false_and, Classical.not_not, Nat.add_zero, z_01, z_em, z_bit_p, Nat.not_le, Nat.not_lt, reduceCtorEq, if_true, if_false]
  rw [st]
  exact fin
