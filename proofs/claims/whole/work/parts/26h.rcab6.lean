/-! ===== THE REFERENCE: cabinet(), done ===== -/
theorem C_ls_ok {B : Nat → Nat} {N : Nat} : ∀ (g p n m : Nat) (r r' : Nat → Int32), R_ok r n m → p ≤ N → C_ls B N g r p = .ok r' → (∃ n' m', R_ok r' n' m') ∧ C_o r r'
  | 0, p, n, m, r, r', _, _, e => by cases e
  | g + 1, p, n, m, r, r', h, hp, e => by
    unfold C_ls at e
    obtain ⟨cn, cm⟩ := C_nm h
    rw [cn, cm] at e
    split at e
    · cases e
    · rename_i q r1 h1
      obtain ⟨⟨n', m', k1⟩, k2, k3, k4⟩ := C_line_ok h hp h1
      split at e
      · cases e; exact ⟨⟨n', m', k1⟩, k2⟩
      · split at e
        · obtain ⟨k5, k6⟩ := C_ls_ok g (t_nx B N q) n' m' r1 r' k1 (t_nx_le k3) e
          exact ⟨k5, C_o_t k2 k6⟩
        · cases e
theorem C_cab_ok {B : Nat → Nat} {N n m : Nat} {r r' : Nat → Int32} (h : R_ok r n m) (e : C_cab B N r = .ok r') : (∃ n' m', R_ok r' n' m') ∧ C_o r r' := by
  unfold C_cab at e
  split at e
  · cases e; exact ⟨⟨n, m, h⟩, C_o_r _⟩
  · exact C_ls_ok 14 _ n m r r' h (t_sk_le (Nat.zero_le _)) e
def m_cab (a k : Nat) : Bool := m_bg a k || m_p a k || (a == 139 && (k == 0 || k == 6)) || a == 142 || a == 140
theorem z_cab_bg {I J : Ii} (h : z_fr m_bg I J) : z_fr m_cab I J := z_fr_m h (fun a k h => by simp [m_cab, h])
theorem z_cab_pc {I J : Ii} (h : z_fr m_pc I J) : z_fr m_cab I J := z_fr_m h (fun a k h => by
  simp [m_pc] at h
  rcases h with h | h <;> simp [m_cab, h])
theorem l_cabinet (X : Sx) (d : Nat) (I : Ii) (T : Tt) {B : Nat → Nat} {N n m : Nat} (hT : z_Tr I B N) (hN : N ≤ 400) (hB : ∀ k, k < N → B k < 256) (ho : R_ok (I 140) n m) : (∀ e, C_cab B N (I 140) = .error e → ∃ K, c_X12_cabinet_139 X (d + 10) I T = z_r 0 K T ∧ K 139 0 = 1 ∧ K 139 13 = nI e ∧ e ≤ N ∧ K 139 6 = I 139 6 ∧ K 140 = I 140 ∧ K 139 8 = 0 ∧ z_fr m_cab I K) ∧ (∀ r', C_cab B N (I 140) = .ok r' → I 140 0 = 12 → ∃ K, c_X12_cabinet_139 X (d + 10) I T = z_r 0 K T ∧ K 139 0 = 2 ∧ K 139 13 = -1 ∧ K 139 6 = I 139 6 ∧ K 140 = I 140 ∧ K 139 8 = 0 ∧ z_fr m_cab I K) ∧ (∀ r', C_cab B N (I 140) = .ok r' → I 140 0 ≠ 12 → ∃ K, c_X12_cabinet_139 X (d + 10) I T = z_r (I 140 0 + 1) K T ∧ K 139 0 = 0 ∧ K 139 13 = -1 ∧ K 139 6 = 0 ∧ K 140 = va_up r' 0 (I 140 0 + 1) ∧ K 139 8 = 0 ∧ z_fr m_cab I K) := by
  obtain ⟨A, a1, a2, a3⟩ := l_aside X (d + 8) I T
  have hTA : z_Tr A B N := ⟨by rw [a2 139 8 rfl]; exact hT.1, fun k hk => by rw [a2 144 k rfl]; exact hT.2 k hk⟩
  have eA : A 140 = I 140 := funext (fun k => a2 140 k rfl)
  obtain ⟨c1, c2, c3, c4, c5, c6, c7⟩ := z_bg_c A 4
  have eG : z_bg A 4 140 = I 140 := (funext (fun k => z_bg_fr A 4 140 k rfl)).trans eA
  have ch : l_ch (z_bg A 4) B N (I 140) := ⟨z_bg_tx hTA hN hB, c2, c1, c7, eG⟩
  have R := l_cread X d (z_bg A 4) T ch ho c5
  have fG : z_fr m_cab I (z_bg A 4) := z_fr_t (z_fr_m a2 (fun a k h => by simp at h; simp [m_cab, h])) (z_cab_bg (z_bg_fr A 4))
  have st : c_X12_cabinet_139 X (d + 10) I T = q_bd (c_X12_read_139 X (d + 9) 0 (z_bg A 4) T) (fun v9 h' => q_res X q_sb q_pg (d + 9) cd_X12_cabinet 8 [some (.ref 139), none] (v9.toList ++ []) h') := by
    rw [e_X12_cabinet_139, a1]
    simp (disch := omega) only [e_X12_cabinet_139_2, k_X12_cabinet_139_2, e_X12_cabinet_139_5, k_X12_cabinet_139_5, l_begins, q_bd_l, z_ltT, z_ltF, z_eqT, z_eqF, z_ltlT, z_ltlF, z_lltT, z_lltF, z_eqlT, z_eqlF, z_in, z_k7, z_cl, z_lneg, z_llT, z_llF, z_s1, z_nI_cl, z_nlt0, z_ne_m1, z_b0, z_b1, z_la, z_al, z_lm, z_ml, z_nm, nI_add, pk_mul, ↓reduceIte, not_true_eq_false, not_false_eq_true, true_or, or_true, false_or, or_false, true_and, and_true, and_false, false_and, Classical.not_not, Nat.add_zero, z_01, z_em, z_bit_p, Nat.not_le, Nat.not_lt, reduceCtorEq, if_true, if_false]
  rw [st]
  -- what is put back
  have back : ∀ (v : Int32) (J : Ii), z_fr m_pc (z_bg A 4) J → ∃ K, c_X12_comesBack_139 X (d + 9) (q_w J 139 0 v) T = z_v K T ∧ K 139 0 = v ∧ K 139 13 = J 139 13 ∧ K 139 6 = I 139 6 ∧ K 140 = I 140 ∧ K 139 8 = 0 ∧ z_fr m_cab I K := by
    intro v J hf
    obtain ⟨K, b1, b2, b3, b4⟩ := l_back X (d + 8) (q_w J 139 0 v) T
    have fJ : z_fr m_cab I (q_w J 139 0 v) := z_fr_w (z_fr_t fG (z_cab_pc hf)) 139 0 v rfl
    refine ⟨K, b1, by rw [b2 139 0 rfl]; exact z_w_s _ _ _ _, by rw [b2 139 13 rfl, z_w_k _ _ _ _ _ (by decide)], ?_, ?_, ?_, z_fr_t fJ (z_fr_m b2 (fun a k h => by simp at h; simp [m_cab, h]))⟩
    · rw [b2 139 6 rfl, z_w_k _ _ _ _ _ (by decide), hf 139 6 rfl, z_bg_fr A 4 139 6 rfl, a2 139 6 rfl]
    · funext k
      rcases Nat.lt_or_ge k 484 with hk | hk
      · rw [b3 k hk, z_w_a _ _ _ _ _ (by decide), hf 142 k (by simp [m_pc, m_p]), z_bg_fr A 4 142 k rfl, a3 k hk]
      · have hb : Nat.blt k 484 = false := by
          cases hb : Nat.blt k 484
          · rfl
          · have : k < 484 := by simpa using hb
            omega
        rw [b4 k hk, z_w_a _ _ _ _ _ (by decide), hf 140 k (by simp [m_pc, m_p, hb]), eG]
    · rw [b2 139 8 rfl, z_w_k _ _ _ _ _ (by decide), hf 139 8 rfl, c4]
  refine ⟨fun e he => ?_, fun r' he h12 => ?_, fun r' he h12 => ?_⟩
  · obtain ⟨v, J, x1, x2, x3, x4⟩ := R.2 e he
    obtain ⟨K, y1, y2, y3, y4⟩ := back 1 J x4
    refine ⟨K, ?_, y2, y3.trans x2, x3, y4⟩
    rw [x1]
    simp (disch := omega) only [e_X12_cabinet_139_8, k_X12_cabinet_139_8, e_X12_cabinet_139_25, e_X12_cabinet_139_31, k_X12_cabinet_139_31, x2, y1, q_bd_l, z_ltT, z_ltF, z_eqT, z_eqF, z_ltlT, z_ltlF, z_lltT, z_lltF, z_eqlT, z_eqlF, z_in, z_k7, z_cl, z_lneg, z_llT, z_llF, z_s1, z_nI_cl, z_nlt0, z_ne_m1, z_b0, z_b1, z_la, z_al, z_lm, z_ml, z_nm, nI_add, pk_mul, ↓reduceIte, not_true_eq_false, not_false_eq_true, true_or, or_true, false_or, or_false, true_and, and_true, and_false, false_and, Classical.not_not, Nat.add_zero, z_01, z_em, z_bit_p, Nat.not_le, Nat.not_lt, reduceCtorEq, if_true, if_false]
  · obtain ⟨v, J, x1, x2, x3, x4⟩ := R.1 r' he
    obtain ⟨-, co⟩ := C_cab_ok ho he
    have j0 : J 140 0 = 12 := by rw [x3, co.2 0 (by omega) (by omega) (by omega) (by omega) (by omega) (by omega)]; exact h12
    obtain ⟨K, y1, y2, y3, y4⟩ := back 2 J x4
    refine ⟨K, ?_, y2, y3.trans x2, y4⟩
    rw [x1]
    simp (disch := omega) only [e_X12_cabinet_139_8, k_X12_cabinet_139_8, e_X12_cabinet_139_25, e_X12_cabinet_139_31, k_X12_cabinet_139_31, x2, j0, y1, q_bd_l, z_ltT, z_ltF, z_eqT, z_eqF, z_ltlT, z_ltlF, z_lltT, z_lltF, z_eqlT, z_eqlF, z_in, z_k7, z_cl, z_lneg, z_llT, z_llF, z_s1, z_nI_cl, z_nlt0, z_ne_m1, z_b0, z_b1, z_la, z_al, z_lm, z_ml, z_nm, nI_add, pk_mul, ↓reduceIte, not_true_eq_false, not_false_eq_true, true_or, or_true, false_or, or_false, true_and, and_true, and_false, false_and, Classical.not_not, Nat.add_zero, z_01, z_em, z_bit_p, Nat.not_le, Nat.not_lt, reduceCtorEq, if_true, if_false]
  · obtain ⟨v, J, x1, x2, x3, x4⟩ := R.1 r' he
    obtain ⟨-, co⟩ := C_cab_ok ho he
    have j0 : J 140 0 = I 140 0 := by rw [x3, co.2 0 (by omega) (by omega) (by omega) (by omega) (by omega) (by omega)]
    have fJ : z_fr m_cab I (q_w J 139 0 0) := z_fr_w (z_fr_t fG (z_cab_pc x4)) 139 0 0 rfl
    refine ⟨q_w (q_w (q_w J 139 0 0) 140 0 (I 140 0 + 1)) 139 6 0, ?_, ?_, ?_, z_w_s _ _ _ _, ?_, ?_, z_fr_w (z_fr_w fJ 140 0 _ rfl) 139 6 _ rfl⟩
    · rw [x1]
      simp (disch := omega) only [e_X12_cabinet_139_8, k_X12_cabinet_139_8, e_X12_cabinet_139_25, x2, j0, h12, z_w_a, q_bd_l, z_ltT, z_ltF, z_eqT, z_eqF, z_ltlT, z_ltlF, z_lltT, z_lltF, z_eqlT, z_eqlF, z_in, z_k7, z_cl, z_lneg, z_llT, z_llF, z_s1, z_nI_cl, z_nlt0, z_ne_m1, z_b0, z_b1, z_la, z_al, z_lm, z_ml, z_nm, nI_add, pk_mul, ↓reduceIte, not_true_eq_false, not_false_eq_true, true_or, or_true, false_or, or_false, true_and, and_true, and_false, false_and, Classical.not_not, Nat.add_zero, z_01, z_em, z_bit_p, Nat.not_le, Nat.not_lt, reduceCtorEq, if_true, if_false]
    · rw [z_w_k _ _ _ _ _ (by decide), z_w_a _ _ _ _ _ (by decide), z_w_s]
    · rw [z_w_k _ _ _ _ _ (by decide), z_w_a _ _ _ _ _ (by decide), z_w_k _ _ _ _ _ (by decide)]; exact x2
    · funext k
      rw [z_w_a _ _ _ _ _ (by decide), z_w]
      unfold va_up
      by_cases e : k = 0
      · rw [if_pos ⟨rfl, e⟩, if_pos e]
      · rw [if_neg (fun c => e c.2), if_neg e, z_w_a _ _ _ _ _ (by decide), x3]
    · rw [z_w_k _ _ _ _ _ (by decide), z_w_a _ _ _ _ _ (by decide), z_w_k _ _ _ _ _ (by decide), x4 139 8 rfl, c4]
