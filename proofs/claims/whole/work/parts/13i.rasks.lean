/-! ===== WHAT THE LAW SAYS OF A JAR: the reference ===== -/
def r_text (r : Nat → Int32) : Nat → Nat := fun k => (r (484 + k)).toNatClampNeg
def R_ls (r : Nat → Int32) : List Ln := match P_law (r_text r) (r 2).toNatClampNeg with
  | some (.ok Ls) => Ls
  | _ => []
/-- the law's text in a row is right -/
def R_lo (r : Nat → Int32) : Prop := r 1 = -1 ∨ ∃ N Ls, N ≤ 400 ∧ r 2 = nI N ∧ (∀ k, k < N → r (484 + k) = nI (r_text r k) ∧ r_text r k < 256) ∧ P_law (r_text r) N = some (.ok Ls) ∧ r 1 = nI Ls.length ∧ Ls.length ≤ 12
def r_fc (r : Nat → Int32) (j : Nat) (mt vw : Int32) : Fc := (fun k => if k < 7 then (if k = 0 then nI j else if k = 1 then mt else if k = 2 then vw else if k = 3 then r (12 + 13 * j + 3) else if k = 4 then r (12 + 13 * j + 2) else if k = 5 then r (12 + 13 * j + 1) else r 8) else 0, r (12 + 13 * j), z_b (r (12 + 13 * j + 6) = 1))
/-- advice, sourness, popping -/
def R_say (r : Nat → Int32) (j : Nat) (mt vw : Int32) : S3 := if r 1 = -1 then (vw, z_b (r (12 + 13 * j) = 0), 0) else r_lns (r_fc r j mt vw) (R_ls r) (vw, 0, 0)
def m_r (a k : Nat) : Bool := (a == 139 && (k == 9 || k == 10 || k == 11 || k == 12 || k == 14 || k == 16 || k == 17 || k == 18 || k == 19 || k == 20)) || a == 145
def m_r13 (a k : Nat) : Bool := m_r a k || (a == 139 && k == 13)
def z_K (I : Ii) (j : Nat) (mt vw : Int32) : Ii := (q_w (q_w (q_w (q_w (q_w (q_w (q_w (q_w (q_w (q_w (q_w (q_w (q_w (q_w (q_w (q_w (q_w (q_w I 139 18 vw) 139 19 0) 139 20 0) 145 0 (nI j)) 145 1 mt) 145 2 vw) 145 3 (I 140 (12 + 13 * j + 3))) 145 4 (I 140 (12 + 13 * j + 2))) 145 5 (I 140 (12 + 13 * j + 1))) 145 6 (I 140 8)) 139 16 (I 140 (12 + 13 * j))) 139 17 (z_b (I 140 (12 + 13 * j + 6) = 1))) 139 13 (-1)) 139 9 484) 139 10 (I 140 2)) 139 11 0) 139 14 0) 139 12 3)
theorem z_K_fr (I : Ii) (j : Nat) (mt vw : Int32) : z_fr m_r13 I (z_K I j mt vw) := by
  unfold z_K
  repeat (refine z_fr_w ?_ _ _ _ rfl)
  exact z_fr_r _ _
theorem z_self {K : Ii} (h : K 139 11 = nI 0) : K = z_A (z_S K (K 139 18, K 139 19, K 139 20)) 0 := by
  have e : z_S K (K 139 18, K 139 19, K 139 20) = K := by
    unfold z_S
    dsimp only
    rw [z_w_id (I := K) (a := 139) (k := 18) rfl, z_w_id (I := K) (a := 139) (k := 19) rfl, z_w_id (I := K) (a := 139) (k := 20) rfl]
  rw [e, z_A_id h]
theorem z_K_c (I : Ii) (j : Nat) (mt vw : Int32) : z_K I j mt vw 139 18 = vw ∧ z_K I j mt vw 139 19 = 0 ∧ z_K I j mt vw 139 20 = 0 ∧ z_K I j mt vw 139 11 = nI 0 ∧ z_K I j mt vw 139 13 = -1 ∧ z_K I j mt vw 139 12 = nI 3 ∧ z_K I j mt vw 139 14 = nI 0 ∧ z_K I j mt vw 139 9 = 484 ∧ z_K I j mt vw 139 10 = I 140 2 ∧ z_K I j mt vw 139 17 = z_b (I 140 (12 + 13 * j + 6) = 1) ∧ z_K I j mt vw 139 16 = I 140 (12 + 13 * j) ∧ z_K I j mt vw 140 = I 140 := by
  refine ⟨?_, ?_, ?_, ?_, ?_, ?_, ?_, ?_, ?_, ?_, ?_, ?_⟩
  all_goals first | (funext k; simp [z_K, z_w]) | (simp [z_K, z_w]; done) | (simp [z_K, z_w]; rfl)
theorem z_K_fc (I : Ii) (j : Nat) (mt vw : Int32) : z_fc (z_K I j mt vw) = r_fc (I 140) j mt vw := by
  obtain ⟨-, -, -, -, -, -, -, -, -, h17, h16, -⟩ := z_K_c I j mt vw
  unfold z_fc r_fc
  rw [h17, h16]
  congr 1
  funext k
  by_cases h : k < 7
  · rw [if_pos h, if_pos h]
    rcases (by omega : k = 0 ∨ k = 1 ∨ k = 2 ∨ k = 3 ∨ k = 4 ∨ k = 5 ∨ k = 6) with rfl | rfl | rfl | rfl | rfl | rfl | rfl <;> simp [z_K, z_w]
  · rw [if_neg h, if_neg h]
theorem l_asks11 (X : Sx) (d : Nat) (I : Ii) (T : Tt) (j : Nat) (hj : j < 10) (m2 mt vw : Int32) (hm : mt = if m2 = -1 then 0 else m2) (hL : R_lo (I 140)) : ∃ J, c_X12_asks_139_11 X (d + 32) (nI j) m2 vw I T = z_v J T ∧ z_fr m_r I J ∧ (J 139 18, J 139 19, J 139 20) = R_say (I 140) j mt vw := by
  rw [e_X12_asks_139_11]
  unfold R_say
  rcases hL with h1 | ⟨N, Ls, hN, h2, h3, h4, h5, h6⟩
  · by_cases hl : I 140 (12 + 13 * j) = 0
    · simp (disch := omega) only [e_X12_asks_139_11, k_X12_asks_139_11, e_X12_asks_139_32, k_X12_asks_139_32, e_X12_asks_139_36, e_X12_asks_139_52, e_X12_asks_139_65, k_X12_asks_139_65, e_X12_asks_139_73, k_X12_asks_139_73, e_X12_asks_139_81, k_X12_asks_139_81, e_X12_asks_139_95, k_X12_asks_139_95, e_X12_asks_139_101, k_X12_asks_139_101, e_X12_asks_139_106, e_X12_asks_139_134, k_X12_asks_139_134, h1, l_of, z_w_a, hl, q_bd_l, z_ltT, z_ltF, z_eqT, z_eqF, z_ltlT, z_ltlF, z_lltT, z_lltF, z_eqlT, z_eqlF, z_in, z_k7, z_cl, z_lneg, z_llT, z_llF, z_s1, z_nI_cl, z_nlt0, z_ne_m1, z_b0, z_b1, z_la, z_al, z_lm, z_ml, z_nm, nI_add, pk_mul, ↓reduceIte, not_true_eq_false, not_false_eq_true, true_or, or_true, false_or, or_false, true_and, and_true, and_false, false_and, Classical.not_not, Nat.add_zero, z_01, z_em, z_bit_p, Nat.not_le, Nat.not_lt, reduceCtorEq, if_true, if_false]
      refine ⟨_, rfl, z_fr_w (z_fr_w (z_fr_w (z_fr_w (z_fr_r _ _) 139 18 _ rfl) 139 19 _ rfl) 139 20 _ rfl) 139 19 _ rfl, ?_⟩
      simp [z_w, z_b, hl]
    · simp (disch := omega) only [e_X12_asks_139_11, k_X12_asks_139_11, e_X12_asks_139_32, k_X12_asks_139_32, e_X12_asks_139_36, e_X12_asks_139_52, e_X12_asks_139_65, k_X12_asks_139_65, e_X12_asks_139_73, k_X12_asks_139_73, e_X12_asks_139_81, k_X12_asks_139_81, e_X12_asks_139_95, k_X12_asks_139_95, e_X12_asks_139_101, k_X12_asks_139_101, e_X12_asks_139_106, e_X12_asks_139_134, k_X12_asks_139_134, h1, l_of, z_w_a, hl, q_bd_l, z_ltT, z_ltF, z_eqT, z_eqF, z_ltlT, z_ltlF, z_lltT, z_lltF, z_eqlT, z_eqlF, z_in, z_k7, z_cl, z_lneg, z_llT, z_llF, z_s1, z_nI_cl, z_nlt0, z_ne_m1, z_b0, z_b1, z_la, z_al, z_lm, z_ml, z_nm, nI_add, pk_mul, ↓reduceIte, not_true_eq_false, not_false_eq_true, true_or, or_true, false_or, or_false, true_and, and_true, and_false, false_and, Classical.not_not, Nat.add_zero, z_01, z_em, z_bit_p, Nat.not_le, Nat.not_lt, reduceCtorEq, if_true, if_false]
      refine ⟨_, rfl, z_fr_w (z_fr_w (z_fr_w (z_fr_w (z_fr_r _ _) 139 18 _ rfl) 139 19 _ rfl) 139 20 _ rfl) 139 19 _ rfl, ?_⟩
      simp [z_w, z_b, hl]
  · have hn1 : ¬ I 140 1 = -1 := by rw [h5, z_ne_m1 _ (by omega)]; exact not_false
    obtain ⟨k18, k19, k20, k11, k13, k12, k14, k9, k10, k17, k16, k140⟩ := z_K_c I j mt vw
    have H : l_hy (z_K I j mt vw) (r_text (I 140)) N 0 := by
      refine ⟨⟨hN, by rw [k10, h2], fun k hk => (h3 k hk).2, .inr ⟨k9, fun k hk => by rw [k140]; exact (h3 k hk).1⟩⟩, k13, k12, ?_, k14⟩
      rw [k17]; exact z_b_01 _
    have rd := (l_read X (d + 1) (z_K I j mt vw) T H (vw, 0, 0)).1 Ls h4
    have es : z_A (z_S (z_K I j mt vw) (vw, 0, 0)) 0 = z_K I j mt vw := by
      have := z_self k11
      rw [k18, k19, k20] at this
      exact this.symm
    rw [es, z_K_fc] at rd
    have eR : R_ls (I 140) = Ls := by
      unfold R_ls
      rw [h2, nI_clamp (by omega), h4]
    have go : (if I 140 1 = -1 then q_bd (c_X12_of_139 X (d + 32) (nI j) 0 (q_w (q_w (q_w I 139 18 vw) 139 19 0) 139 20 0) T) (fun v9 h' => q_res X q_sb q_pg (d + 32) cd_X12_asks 32 [some (.ref 139), some (.int (nI j)), some (.int m2), some (.int vw), none, none] (v9.toList ++ [.ref 139]) h') else (if m2 = -1 then c_X12_asks_139_52 X (d + 32) (nI j) m2 vw 0 (q_w (q_w (q_w (q_w I 139 18 vw) 139 19 0) 139 20 0) 145 0 (nI j)) T else c_X12_asks_139_52 X (d + 32) (nI j) m2 vw m2 (q_w (q_w (q_w (q_w I 139 18 vw) 139 19 0) 139 20 0) 145 0 (nI j)) T)) = q_bd (c_X12_read_139 X (d + 32) 1 (z_K I j mt vw) T) (fun v9 h' => q_res X q_sb q_pg (d + 32) cd_X12_asks 134 [some (.ref 139), some (.int (nI j)), some (.int m2), some (.int vw), some (.int (I 139 13)), none] (v9.toList ++ []) h') := by
      rw [if_neg hn1]
      unfold z_K
      have e52 : (if m2 = -1 then c_X12_asks_139_52 X (d + 32) (nI j) m2 vw 0 (q_w (q_w (q_w (q_w I 139 18 vw) 139 19 0) 139 20 0) 145 0 (nI j)) T else c_X12_asks_139_52 X (d + 32) (nI j) m2 vw m2 (q_w (q_w (q_w (q_w I 139 18 vw) 139 19 0) 139 20 0) 145 0 (nI j)) T) = c_X12_asks_139_52 X (d + 32) (nI j) m2 vw mt (q_w (q_w (q_w (q_w I 139 18 vw) 139 19 0) 139 20 0) 145 0 (nI j)) T := by
        rw [hm]; split <;> rfl
      rw [e52]
      unfold z_b
      by_cases ho : I 140 (12 + 13 * j + 6) = 1
      · simp (disch := omega) only [e_X12_asks_139_11, k_X12_asks_139_11, e_X12_asks_139_32, k_X12_asks_139_32, e_X12_asks_139_36, e_X12_asks_139_52, e_X12_asks_139_65, k_X12_asks_139_65, e_X12_asks_139_73, k_X12_asks_139_73, e_X12_asks_139_81, k_X12_asks_139_81, e_X12_asks_139_95, k_X12_asks_139_95, e_X12_asks_139_101, k_X12_asks_139_101, e_X12_asks_139_106, l_of, z_w_a, ho, z_w_k, q_bd_l, z_ltT, z_ltF, z_eqT, z_eqF, z_ltlT, z_ltlF, z_lltT, z_lltF, z_eqlT, z_eqlF, z_in, z_k7, z_cl, z_lneg, z_llT, z_llF, z_s1, z_nI_cl, z_nlt0, z_ne_m1, z_b0, z_b1, z_la, z_al, z_lm, z_ml, z_nm, nI_add, pk_mul, ↓reduceIte, not_true_eq_false, not_false_eq_true, true_or, or_true, false_or, or_false, true_and, and_true, and_false, false_and, Classical.not_not, Nat.add_zero, z_01, z_em, z_bit_p, Nat.not_le, Nat.not_lt, reduceCtorEq, if_true, if_false]
      · simp (disch := omega) only [e_X12_asks_139_11, k_X12_asks_139_11, e_X12_asks_139_32, k_X12_asks_139_32, e_X12_asks_139_36, e_X12_asks_139_52, e_X12_asks_139_65, k_X12_asks_139_65, e_X12_asks_139_73, k_X12_asks_139_73, e_X12_asks_139_81, k_X12_asks_139_81, e_X12_asks_139_95, k_X12_asks_139_95, e_X12_asks_139_101, k_X12_asks_139_101, e_X12_asks_139_106, l_of, z_w_a, ho, z_w_k, q_bd_l, z_ltT, z_ltF, z_eqT, z_eqF, z_ltlT, z_ltlF, z_lltT, z_lltF, z_eqlT, z_eqlF, z_in, z_k7, z_cl, z_lneg, z_llT, z_llF, z_s1, z_nI_cl, z_nlt0, z_ne_m1, z_b0, z_b1, z_la, z_al, z_lm, z_ml, z_nm, nI_add, pk_mul, ↓reduceIte, not_true_eq_false, not_false_eq_true, true_or, or_true, false_or, or_false, true_and, and_true, and_false, false_and, Classical.not_not, Nat.add_zero, z_01, z_em, z_bit_p, Nat.not_le, Nat.not_lt, reduceCtorEq, if_true, if_false]
    rw [go, rd]
    simp (disch := omega) only [e_X12_asks_139_11, k_X12_asks_139_11, e_X12_asks_139_32, k_X12_asks_139_32, e_X12_asks_139_36, e_X12_asks_139_52, e_X12_asks_139_65, k_X12_asks_139_65, e_X12_asks_139_73, k_X12_asks_139_73, e_X12_asks_139_81, k_X12_asks_139_81, e_X12_asks_139_95, k_X12_asks_139_95, e_X12_asks_139_101, k_X12_asks_139_101, e_X12_asks_139_106, e_X12_asks_139_134, k_X12_asks_139_134, q_bd_l, z_ltT, z_ltF, z_eqT, z_eqF, z_ltlT, z_ltlF, z_lltT, z_lltF, z_eqlT, z_eqlF, z_in, z_k7, z_cl, z_lneg, z_llT, z_llF, z_s1, z_nI_cl, z_nlt0, z_ne_m1, z_b0, z_b1, z_la, z_al, z_lm, z_ml, z_nm, nI_add, pk_mul, ↓reduceIte, not_true_eq_false, not_false_eq_true, true_or, or_true, false_or, or_false, true_and, and_true, and_false, false_and, Classical.not_not, Nat.add_zero, z_01, z_em, z_bit_p, Nat.not_le, Nat.not_lt, reduceCtorEq, if_true, if_false]
    refine ⟨_, rfl, ?_, ?_⟩
    · intro a k hk
      rw [z_w]
      by_cases e : a = 139 ∧ k = 13
      · rw [if_pos e, e.1, e.2]
      · rw [if_neg e]
        have q1 : z_fr m_p (z_K I j mt vw) (z_A (z_S (z_K I j mt vw) (r_lns (r_fc (I 140) j mt vw) Ls (vw, 0, 0))) N) := z_fr_t (z_S_fr _ _) (z_A_fr _ _)
        have p1 : m_p a k = false := by
          cases hm9 : m_p a k
          · rfl
          · exfalso
            simp [m_p] at hm9
            simp [m_r] at hk
            omega
        rw [q1 a k p1]
        refine z_K_fr I j mt vw a k ?_
        simp only [m_r13, hk, Bool.false_or]
        simpa using e
    · rw [if_neg hn1, eR]
      rw [z_w_k _ _ _ _ 18 (by decide), z_w_k _ _ _ _ 19 (by decide), z_w_k _ _ _ _ 20 (by decide), z_A_k _ _ _ (by decide), z_A_k _ _ _ (by decide), z_A_k _ _ _ (by decide), z_S_18, z_S_19, z_S_20]
