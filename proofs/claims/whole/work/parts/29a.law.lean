/-! ===== law(), BOTH SIDES ===== -/
/-- fuel is enough -/
theorem P_if_f {B : Nat → Nat} {n k m q : Nat} : P_if B n (p_fuel n) k m q ≠ none := by
  unfold P_if
  intro h
  split at h
  · have := (P_e_f B n (p_fuel n) 0 (t_nx B n q) (by omega)).2.2.1 (by unfold p_fuel; omega)
    split at h
    · rename_i h1; exact this h1
    · cases h
    · cases h
  · cases h
theorem P_line_f {B : Nat → Nat} {n p : Nat} : P_line B n (p_fuel n) p ≠ none := by
  unfold P_line
  intro h
  split at h
  · cases h
  · split at h
    · exact P_if_f h
    · split at h
      · exact P_if_f h
      · cases h
theorem P_ls_f {B : Nat → Nat} {n : Nat} : ∀ {g p : Nat}, P_ls B n (p_fuel n) g p ≠ none
  | 0, p => fun h => by cases h
  | g + 1, p => fun h => by
    unfold P_ls at h
    split at h
    · rename_i h1; exact P_line_f h1
    · cases h
    · split at h
      · cases h
      · split at h
        · split at h
          · rename_i h1; exact P_ls_f h1
          · cases h
          · cases h
        · cases h
theorem P_law_f (B : Nat → Nat) (n : Nat) : P_law B n ≠ none := by
  unfold P_law
  split
  · intro h; cases h
  · exact P_ls_f
/-- the row with a law of this text -/
def L_row (r : Nat → Int32) (N : Nat) (B : Nat → Nat) (l : Int32) : Nat → Int32 := fun i => if i = 1 then l else if i = 2 then nI N else if 484 ≤ i ∧ i < 484 + N then nI (B (i - 484)) else r i
/-- bytes beyond the text as they stand in the row -/
def L_B (r : Nat → Int32) (N : Nat) (B : Nat → Nat) : Nat → Nat := fun k => if k < N then B k else (r (484 + k)).toNatClampNeg
theorem L_B_k {r : Nat → Int32} {N : Nat} {B : Nat → Nat} {k : Nat} (h : k < N) : L_B r N B k = B k := by unfold L_B; rw [if_pos h]
theorem L_text {r : Nat → Int32} {N : Nat} {B : Nat → Nat} {l : Int32} (hB : ∀ k, k < N → B k < 256) : r_text (L_row r N (L_B r N B) l) = L_B r N B := by
  funext k
  unfold r_text L_row
  rw [if_neg (by omega), if_neg (by omega)]
  by_cases h : k < N
  · rw [if_pos (by omega), show 484 + k - 484 = k by omega, L_B_k h, z_nI_cl _ (by have := hB k h; omega)]
  · rw [if_neg (by omega)]
    unfold L_B
    rw [if_neg h]
theorem L_row_o {r : Nat → Int32} {N : Nat} {B : Nat → Nat} {l : Int32} {i : Nat} (h1 : i ≠ 1) (h2 : i ≠ 2) (h3 : i < 484) : L_row r N B l i = r i := by
  unfold L_row
  rw [if_neg h1, if_neg h2, if_neg (by omega)]
theorem L_lo {r : Nat → Int32} {N : Nat} {B : Nat → Nat} {Ls : List Ln} (hN : N ≤ 400) (hB : ∀ k, k < N → B k < 256) (hP : P_law (L_B r N B) N = some (.ok Ls)) : R_lo (L_row r N (L_B r N B) (nI Ls.length)) ∧ R_ls (L_row r N (L_B r N B) (nI Ls.length)) = Ls := by
  have et := L_text (r := r) (l := nI Ls.length) hB
  have e2 : L_row r N (L_B r N B) (nI Ls.length) 2 = nI N := by unfold L_row; rw [if_neg (by omega), if_pos rfl]
  have e1 : L_row r N (L_B r N B) (nI Ls.length) 1 = nI Ls.length := by unfold L_row; rw [if_pos rfl]
  refine ⟨.inr ⟨N, Ls, hN, e2, fun k hk => ?_, by rw [et]; exact hP, e1, (P_law_w hP).2⟩, ?_⟩
  · rw [et, L_B_k hk]
    refine ⟨?_, hB k hk⟩
    unfold L_row
    rw [if_neg (by omega), if_neg (by omega), if_pos (by omega), show 484 + k - 484 = k by omega, L_B_k hk]
  · unfold R_ls
    rw [et, e2, z_nI_cl _ (by omega), hP]
def m_law (a k : Nat) : Bool := m_bg a k || m_p a k || (a == 139 && (k == 0 || k == 6)) || a == 140
theorem l_law34 (X : Sx) (d : Nat) (T : Tt) (v1 : Int32) {B : Nat → Nat} {N : Nat} (hN : N ≤ 400) : ∀ q k (I : Ii), k + q = N → I 139 10 = nI N → (∀ i, i < N → I 144 i = nI (B i)) → ∃ J, c_X12_law_139_34 X d v1 (nI k) I T = z_r v1 J T ∧ z_fr (fun a i => a == 140 || (a == 139 && i == 6)) I J ∧ J 139 6 = 0 ∧ ∀ i, J 140 i = if 484 + k ≤ i ∧ i < 484 + N then nI (B (i - 484)) else I 140 i := by
  intro q
  induction q with
  | zero =>
    intro k I hk h10 hT
    refine ⟨q_w I 139 6 0, ?_, z_fr_w (z_fr_r _ _) 139 6 _ rfl, z_w_s _ _ _ _, fun i => ?_⟩
    · rw [e_X12_law_139_34, h10, if_neg (nI_nlt (by omega) (by omega))]
    · rw [if_neg (by omega), z_w_a _ _ _ _ _ (by decide)]
  | succ q ih =>
    intro k I hk h10 hT
    have hTk := hT k (by omega)
    obtain ⟨J, j1, j2, j3, j4⟩ := ih (k + 1) (q_w I 140 (484 + k) (nI (B k))) (by omega) (by rw [z_w_a _ _ _ _ _ (by decide)]; exact h10) (fun i hi => by rw [z_w_a _ _ _ _ _ (by decide)]; exact hT i hi)
    refine ⟨J, ?_, z_fr_t (z_fr_w (z_fr_r _ _) 140 _ _ rfl) j2, j3, fun i => ?_⟩
    · rw [← j1, e_X12_law_139_34]
      simp (disch := omega) only [h10, hTk, q_bd_l, z_ltT, z_ltF, z_eqT, z_eqF, z_ltlT, z_ltlF, z_lltT, z_lltF, z_eqlT, z_eqlF, z_in, z_k7, z_cl, z_lneg, z_llT, z_llF, z_s1, z_nI_cl, z_nlt0, z_ne_m1, z_b0, z_b1, z_la, z_al, z_lm, z_ml, z_nm, nI_add, pk_mul, ↓reduceIte, not_true_eq_false, not_false_eq_true, true_or, or_true, false_or, or_false, true_and, and_true, and_false, false_and, Classical.not_not, Nat.add_zero, z_01, z_em, z_bit_p, Nat.not_le, Nat.not_lt, reduceCtorEq, if_true, if_false]
    · rw [j4 i, z_w]
      by_cases e : i = 484 + k
      · subst e
        rw [if_neg (by omega), if_pos ⟨rfl, rfl⟩, if_pos (by omega), show 484 + k - 484 = k by omega]
      · have e3 : ¬ (140 = 140 ∧ i = 484 + k) := fun c => e c.2
        rw [if_neg e3]
        by_cases e2 : 484 + (k + 1) ≤ i ∧ i < 484 + N
        · rw [if_pos e2, if_pos (by omega)]
        · rw [if_neg e2, if_neg (by omega)]
theorem z_S_id (I : Ii) : z_S I (I 139 18, I 139 19, I 139 20) = I := by
  unfold z_S
  rw [z_w_id rfl, z_w_id rfl, z_w_id rfl]
theorem l_Xlaw (X : Sx) (d : Nat) (I : Ii) (T : Tt) {B : Nat → Nat} {N : Nat} (hT : z_Tr I B N) (hN : N ≤ 400) (hB : ∀ k, k < N → B k < 256) (ho : z_01b (I 139 17)) : (∀ e, P_law B N = some (.error e) → ∃ K, c_X12_law_139 X (d + 32) I T = z_r 0 K T ∧ K 139 0 = 1 ∧ K 139 13 = nI e ∧ e ≤ N ∧ K 139 6 = I 139 6 ∧ K 140 = I 140 ∧ K 139 8 = 0 ∧ z_fr m_law I K) ∧ (∀ Ls, P_law B N = some (.ok Ls) → ∃ K, c_X12_law_139 X (d + 32) I T = z_r (nI Ls.length) K T ∧ K 139 0 = 0 ∧ K 139 13 = -1 ∧ K 139 6 = 0 ∧ K 140 = L_row (I 140) N B (nI Ls.length) ∧ K 139 8 = 0 ∧ z_fr m_law I K) := by
  obtain ⟨c1, c2, c3, c4, c5, c6, c7⟩ := z_bg_c I 3
  have hx : z_tx (z_bg I 3) B N := z_bg_tx hT hN hB
  have hy : l_hy (z_bg I 3) B N 0 := ⟨hx, c1, c7, by rw [z_bg_fr I 3 139 17 rfl]; exact ho, c6⟩
  have R := l_read X d (z_bg I 3) T hy (z_bg I 3 139 18, z_bg I 3 139 19, z_bg I 3 139 20)
  rw [z_S_id, z_A_id c5] at R
  have eG : z_bg I 3 140 = I 140 := funext (fun k => z_bg_fr I 3 140 k rfl)
  have fG : z_fr m_law I (z_bg I 3) := z_fr_m (z_bg_fr I 3) (fun a k h => by simp [m_law, h])
  have st : c_X12_law_139 X (d + 32) I T = q_bd (c_X12_read_139 X (d + 31) 1 (z_bg I 3) T) (fun v9 h' => q_res X q_sb q_pg (d + 31) cd_X12_law 6 [some (.ref 139), none, none] (v9.toList ++ []) h') := by
    rw [e_X12_law_139, l_begins]
    simp (disch := omega) only [e_X12_law_139_3, k_X12_law_139_3, q_bd_l, z_ltT, z_ltF, z_eqT, z_eqF, z_ltlT, z_ltlF, z_lltT, z_lltF, z_eqlT, z_eqlF, z_in, z_k7, z_cl, z_lneg, z_llT, z_llF, z_s1, z_nI_cl, z_nlt0, z_ne_m1, z_b0, z_b1, z_la, z_al, z_lm, z_ml, z_nm, nI_add, pk_mul, ↓reduceIte, not_true_eq_false, not_false_eq_true, true_or, or_true, false_or, or_false, true_and, and_true, and_false, false_and, Classical.not_not, Nat.add_zero, z_01, z_em, z_bit_p, Nat.not_le, Nat.not_lt, reduceCtorEq, if_true, if_false]
  rw [st]
  refine ⟨fun e he => ?_, fun Ls hL => ?_⟩
  · obtain ⟨v, J, x1, x2, x3, x4⟩ := R.2 e he
    refine ⟨q_w J 139 0 1, ?_, z_w_s _ _ _ _, by rw [z_w_k _ _ _ _ _ (by decide)]; exact x2, x3, ?_, ?_, ?_, z_fr_w (z_fr_t fG (z_fr_m x4 (fun a k h => by simp [m_law, h]))) 139 0 _ rfl⟩
    · rw [x1]
      simp (disch := omega) only [e_X12_law_139_6, k_X12_law_139_6, e_X12_law_139_15, x2, q_bd_l, z_ltT, z_ltF, z_eqT, z_eqF, z_ltlT, z_ltlF, z_lltT, z_lltF, z_eqlT, z_eqlF, z_in, z_k7, z_cl, z_lneg, z_llT, z_llF, z_s1, z_nI_cl, z_nlt0, z_ne_m1, z_b0, z_b1, z_la, z_al, z_lm, z_ml, z_nm, nI_add, pk_mul, ↓reduceIte, not_true_eq_false, not_false_eq_true, true_or, or_true, false_or, or_false, true_and, and_true, and_false, false_and, Classical.not_not, Nat.add_zero, z_01, z_em, z_bit_p, Nat.not_le, Nat.not_lt, reduceCtorEq, if_true, if_false]
    · rw [z_w_k _ _ _ _ _ (by decide), x4 139 6 rfl, z_bg_fr I 3 139 6 rfl]
    · rw [z_w_a _ _ _ _ _ (by decide), ← eG]; exact funext (fun k => x4 140 k (by simp [m_p]))
    · rw [z_w_k _ _ _ _ _ (by decide), x4 139 8 rfl, c4]
  · have x1 := R.1 Ls hL
    generalize hst : r_lns (z_fc (z_bg I 3)) Ls (z_bg I 3 139 18, z_bg I 3 139 19, z_bg I 3 139 20) = s3 at x1
    have fJ : z_fr m_p (z_bg I 3) (z_A (z_S (z_bg I 3) s3) N) := z_fr_t (z_S_fr _ _) (z_A_fr _ _)
    have j13 : z_A (z_S (z_bg I 3) s3) N 139 13 = -1 := by
      rw [z_A_k _ _ _ (by decide)]
      unfold z_S
      rw [z_w_k _ _ _ _ _ (by decide), z_w_k _ _ _ _ _ (by decide), z_w_k _ _ _ _ _ (by decide)]
      exact c1
    generalize z_A (z_S (z_bg I 3) s3) N = J at *
    have j10 : J 139 10 = nI N := by rw [fJ 139 10 rfl, c3]; exact hT.1
    have e140 : J 140 = I 140 := by rw [← eG]; exact funext (fun k => fJ 140 k (by simp [m_p]))
    obtain ⟨K, k1, k2, k3, k4⟩ := l_law34 X (d + 31) T (nI (0 + Ls.length)) (B := B) hN N 0 (q_w (q_w (q_w J 139 0 0) 140 1 (nI (0 + Ls.length))) 140 2 (nI N)) (Nat.zero_add _) (by rw [z_w_a _ _ _ _ _ (by decide), z_w_a _ _ _ _ _ (by decide), z_w_k _ _ _ _ _ (by decide)]; exact j10) (fun i hi => by rw [z_w_a _ _ _ _ _ (by decide), z_w_a _ _ _ _ _ (by decide), z_w_a _ _ _ _ _ (by decide), fJ 144 i (by simp [m_p]), z_bg_fr I 3 144 i rfl]; exact hT.2 i hi)
    rw [Nat.zero_add] at x1 k1 k4
    have fI2 : z_fr m_law I (q_w (q_w (q_w J 139 0 0) 140 1 (nI Ls.length)) 140 2 (nI N)) := z_fr_w (z_fr_w (z_fr_w (z_fr_t fG (z_fr_m fJ (fun a k h => by simp [m_law, h]))) 139 0 _ rfl) 140 1 _ rfl) 140 2 _ rfl
    rw [Nat.zero_add] at k2
    refine ⟨K, ?_, ?_, ?_, k3, ?_, ?_, z_fr_t fI2 (z_fr_m k2 (fun a k h => by
      simp only [Bool.or_eq_true, Bool.and_eq_true, beq_iff_eq] at h
      rcases h with h | ⟨h1, h2⟩
      · simp [m_law, h]
      · simp [m_law, h1, h2]))⟩
    · have k1' : c_X12_law_139_34 X (d + 31) (nI Ls.length) 0 (q_w (q_w (q_w J 139 0 0) 140 1 (nI Ls.length)) 140 2 (nI N)) T = z_r (nI Ls.length) K T := k1
      rw [x1]
      simp (disch := omega) only [e_X12_law_139_6, k_X12_law_139_6, e_X12_law_139_15, j13, j10, k1', q_bd_l, z_ltT, z_ltF, z_eqT, z_eqF, z_ltlT, z_ltlF, z_lltT, z_lltF, z_eqlT, z_eqlF, z_in, z_k7, z_cl, z_lneg, z_llT, z_llF, z_s1, z_nI_cl, z_nlt0, z_ne_m1, z_b0, z_b1, z_la, z_al, z_lm, z_ml, z_nm, nI_add, pk_mul, ↓reduceIte, not_true_eq_false, not_false_eq_true, true_or, or_true, false_or, or_false, true_and, and_true, and_false, false_and, Classical.not_not, Nat.add_zero, z_01, z_em, z_bit_p, Nat.not_le, Nat.not_lt, reduceCtorEq, if_true, if_false]
    · rw [k2 139 0 rfl, z_w_a _ _ _ _ _ (by decide), z_w_a _ _ _ _ _ (by decide), z_w_s]
    · rw [k2 139 13 rfl, z_w_a _ _ _ _ _ (by decide), z_w_a _ _ _ _ _ (by decide), z_w_k _ _ _ _ _ (by decide)]; exact j13
    · funext i
      rw [k4 i]
      unfold L_row
      by_cases e1 : i = 1
      · subst e1
        rw [if_neg (by omega), if_pos rfl, z_w_k _ _ _ _ _ (by decide), z_w_s]
      rw [if_neg e1]
      by_cases e2 : i = 2
      · subst e2
        rw [if_neg (by omega), if_pos rfl, z_w_s]
      rw [if_neg e2]
      by_cases e3 : 484 ≤ i ∧ i < 484 + N
      · rw [if_pos e3, if_pos (by omega)]
      · rw [if_neg e3, if_neg (by omega), z_w_k _ _ _ _ _ e2, z_w_k _ _ _ _ _ e1, z_w_a _ _ _ _ _ (by decide), e140]
    · rw [k2 139 8 rfl, z_w_a _ _ _ _ _ (by decide), z_w_a _ _ _ _ _ (by decide), z_w_k _ _ _ _ _ (by decide), fJ 139 8 rfl, c4]
