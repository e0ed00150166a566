/-! ===== THE REFERENCE: cabinet() ===== -/
theorem C_nm {r : Nat → Int32} {n m : Nat} (h : R_ok r n m) : C_n r = n ∧ C_m r = m := by
  unfold C_n C_m
  have h1 := h.2.1
  have h2 := h.2.2.2.1
  rw [h.1, h.2.2.1, z_nI_cl _ (by omega), z_nI_cl _ (by omega)]
  exact ⟨rfl, rfl⟩
theorem l_rd40 (X : Sx) (d : Nat) (v3 : Int32) {I J : Ii} (T : Tt) {B : Nat → Nat} {N e : Nat} (f : l_F I J B N e) : ∃ K, c_X12_read_139_40 X (d + 2) 0 1 v3 J T = z_r (v3 + 1) K T ∧ l_F I K B N e := by
  obtain ⟨S, s1, s2, s3, s4⟩ := l_skipF X d T (by omega) J f.2.2.2.2 f.2.2.1
  have hS : l_F I S B N e := ⟨s2.trans f.1, f.2.1, s4, z_fr_t f.2.2.2.1 (z_pc_p s3), z_tx_fr f.2.2.2.2 s3⟩
  refine ⟨S, ?_, hS⟩
  rw [e_X12_read_139_40, s1]
  simp (disch := omega) only [e_X12_read_139_43, k_X12_read_139_43, e_X12_read_139_52, e_X12_read_139_71, l_F_ne hS, q_bd_l, z_ltT, z_ltF, z_eqT, z_eqF, z_ltlT, z_ltlF, z_lltT, z_lltF, z_eqlT, z_eqlF, z_in, z_k7, z_cl, z_lneg, z_llT, z_llF, z_s1, z_nI_cl, z_nlt0, z_ne_m1, z_b0, z_b1, z_la, z_al, z_lm, z_ml, z_nm, nI_add, pk_mul, ↓reduceIte, not_true_eq_false, not_false_eq_true, true_or, or_true, false_or, or_false, true_and, and_true, and_false, false_and, Classical.not_not, Nat.add_zero, z_01, z_em, z_bit_p, Nat.not_le, Nat.not_lt, reduceCtorEq, if_true, if_false]
  rw [e_X12_read_139_13]
  simp (disch := omega) only [e_X12_read_139_71, q_bd_l, z_ltT, z_ltF, z_eqT, z_eqF, z_ltlT, z_ltlF, z_lltT, z_lltF, z_eqlT, z_eqlF, z_in, z_k7, z_cl, z_lneg, z_llT, z_llF, z_s1, z_nI_cl, z_nlt0, z_ne_m1, z_b0, z_b1, z_la, z_al, z_lm, z_ml, z_nm, nI_add, pk_mul, ↓reduceIte, not_true_eq_false, not_false_eq_true, true_or, or_true, false_or, or_false, true_and, and_true, and_false, false_and, Classical.not_not, Nat.add_zero, z_01, z_em, z_bit_p, Nat.not_le, Nat.not_lt, reduceCtorEq, if_true, if_false]
def z_cs2 (I : Ii) (T : Tt) (N : Nat) (res : Except Nat (Nat → Int32)) (x : Rs) : Prop := (∀ r', res = .ok r' → ∃ v J, x = z_r v J T ∧ J 139 13 = -1 ∧ J 140 = r' ∧ z_fr m_pc I J) ∧ (∀ e, res = .error e → ∃ v J, x = z_r v J T ∧ J 139 13 = nI e ∧ e ≤ N ∧ z_fr m_pc I J)
theorem l_cls (X : Sx) (d : Nat) (T : Tt) {B : Nat → Nat} {N : Nat} : ∀ (g i p n m : Nat) (r : Nat → Int32) (I : Ii), g + i = 14 → p ≤ N → l_ch I B N r → R_ok r n m → z_cs2 I T N (C_ls B N g r (t_sk B N p)) (c_X12_read_139_13 X (d + 8) 0 1 (nI i) (z_A I p) T) := by
  intro g
  induction g with
  | zero =>
    intro i p n m r I hg hp h ho
    have hi : i = 14 := by omega
    subst hi
    have hs := t_sk_le (B := B) hp
    have n1 := h.1.1
    have h13' : ∀ p, z_A I p 139 13 = -1 := fun p => by rw [z_A_k _ _ _ (by decide)]; exact h.2.2.1
    have sk := l_skip X (d + 6) I T h.1 p hp
    have wr := l_wrong X (d + 7) (nI (t_sk B N p)) (z_A I (t_sk B N p)) T (h13' _)
    have f := l_F_wr h.1 (t_sk B N p) hs hs
    obtain ⟨K, k1, k2⟩ := l_rd40 X (d + 6) (nI 14) T f
    refine ⟨fun r' e => (by cases e), fun e he => ?_⟩
    cases he
    refine ⟨nI 14 + 1, K, ?_, k2.1, hs, k2.2.2.2.1⟩
    rw [e_X12_read_139_13]
    simp (disch := omega) only [e_X12_read_139_21, k_X12_read_139_21, e_X12_read_139_27, e_X12_read_139_32, k_X12_read_139_32, h13', z_A_11, sk, wr, k1, q_bd_l, z_ltT, z_ltF, z_eqT, z_eqF, z_ltlT, z_ltlF, z_lltT, z_lltF, z_eqlT, z_eqlF, z_in, z_k7, z_cl, z_lneg, z_llT, z_llF, z_s1, z_nI_cl, z_nlt0, z_ne_m1, z_b0, z_b1, z_la, z_al, z_lm, z_ml, z_nm, nI_add, pk_mul, ↓reduceIte, not_true_eq_false, not_false_eq_true, true_or, or_true, false_or, or_false, true_and, and_true, and_false, false_and, Classical.not_not, Nat.add_zero, z_01, z_em, z_bit_p, Nat.not_le, Nat.not_lt, reduceCtorEq, if_true, if_false]
  | succ g ih =>
    intro i p n m r I hg hp h ho
    have hs := t_sk_le (B := B) hp
    have hss := t_sk_sk B N p
    have n1 := h.1.1
    have h13' : ∀ p, z_A I p 139 13 = -1 := fun p => by rw [z_A_k _ _ _ (by decide)]; exact h.2.2.1
    have sk := l_skip X (d + 6) I T h.1 p hp
    have L := l_cline X (d + 1) I T h ho (t_sk B N p) hs
    rw [hss] at L
    obtain ⟨cn, cm⟩ := C_nm ho
    have hlo := fun q r' => C_line_ok (B := B) (N := N) (p := t_sk B N p) (q := q) (r' := r') ho hs
    unfold C_ls
    rw [cn, cm]
    generalize t_sk B N p = s at *
    have st : c_X12_read_139_13 X (d + 8) 0 1 (nI i) (z_A I p) T = q_bd (c_X12_cabinetLine_139 X (d + 8) (z_A I s) T) (fun v9 h' => q_res X q_sb q_pg (d + 8) cd_X12_read 40 [some (.ref 139), some (.int 0), some (.int 1), some (.int (nI i))] (v9.toList ++ []) h') := by
      rw [e_X12_read_139_13]
      simp (disch := omega) only [e_X12_read_139_21, k_X12_read_139_21, e_X12_read_139_27, h13', sk, q_bd_l, z_ltT, z_ltF, z_eqT, z_eqF, z_ltlT, z_ltlF, z_lltT, z_lltF, z_eqlT, z_eqlF, z_in, z_k7, z_cl, z_lneg, z_llT, z_llF, z_s1, z_nI_cl, z_nlt0, z_ne_m1, z_b0, z_b1, z_la, z_al, z_lm, z_ml, z_nm, nI_add, pk_mul, ↓reduceIte, not_true_eq_false, not_false_eq_true, true_or, or_true, false_or, or_false, true_and, and_true, and_false, false_and, Classical.not_not, Nat.add_zero, z_01, z_em, z_bit_p, Nat.not_le, Nat.not_lt, reduceCtorEq, if_true, if_false]
    rw [st]
    cases hr : C_line B N n m r s with
    | error e =>
      obtain ⟨J, x1, x2⟩ := L.2 e hr
      obtain ⟨K, k1, k2⟩ := l_rd40 X (d + 6) (nI i) T x2
      refine ⟨fun r' e => (by cases e), fun e' he => ?_⟩
      cases he
      refine ⟨nI i + 1, K, ?_, k2.1, k2.2.1, k2.2.2.2.1⟩
      rw [x1]
      simp (disch := omega) only [k_X12_read_139_40, k1, q_bd_l, z_ltT, z_ltF, z_eqT, z_eqF, z_ltlT, z_ltlF, z_lltT, z_lltF, z_eqlT, z_eqlF, z_in, z_k7, z_cl, z_lneg, z_llT, z_llF, z_s1, z_nI_cl, z_nlt0, z_ne_m1, z_b0, z_b1, z_la, z_al, z_lm, z_ml, z_nm, nI_add, pk_mul, ↓reduceIte, not_true_eq_false, not_false_eq_true, true_or, or_true, false_or, or_false, true_and, and_true, and_false, false_and, Classical.not_not, Nat.add_zero, z_01, z_em, z_bit_p, Nat.not_le, Nat.not_lt, reduceCtorEq, if_true, if_false]
    | ok a =>
      obtain ⟨q1, r'⟩ := a
      obtain ⟨q, J, x1, x2, x3, x4, x5⟩ := L.1 q1 r' hr
      obtain ⟨⟨n', m', ho'⟩, -, hq1, hat⟩ := hlo q1 r' hr
      have j13' : ∀ p, z_A J p 139 13 = -1 := fun p => by rw [z_A_k _ _ _ (by decide)]; exact x4.2.2.1
      have j10' : ∀ p, z_A J p 139 10 = nI N := fun p => by rw [z_A_k _ _ _ (by decide)]; exact x4.1.2.1
      have sk1 := l_skip X (d + 6) J T x4.1 q x1
      rw [x2] at sk1
      have hqq : t_sk B N q1 = q1 := t_sk_at hat
      have sg := l_isSign X (d + 5) J T x4.1 q1 hq1 59 (by decide)
      rw [hqq] at sg
      rw [x3]
      dsimp only
      by_cases c1 : q1 = N
      · rw [if_pos c1]
        refine ⟨fun r'' e => ?_, fun e he => (by cases he)⟩
        cases e
        subst c1
        refine ⟨nI i + 1, z_A J q1, ?_, j13' _, by rw [z_A_a _ _ _ (by decide)]; exact x4.2.2.2.2, z_fr_t x5 (z_pc_p (z_A_fr J _))⟩
        simp (disch := omega) only [k_X12_read_139_40, e_X12_read_139_40, e_X12_read_139_43, k_X12_read_139_43, e_X12_read_139_52, sk1, j13', j10', z_A_11, q_bd_l, z_ltT, z_ltF, z_eqT, z_eqF, z_ltlT, z_ltlF, z_lltT, z_lltF, z_eqlT, z_eqlF, z_in, z_k7, z_cl, z_lneg, z_llT, z_llF, z_s1, z_nI_cl, z_nlt0, z_ne_m1, z_b0, z_b1, z_la, z_al, z_lm, z_ml, z_nm, nI_add, pk_mul, ↓reduceIte, not_true_eq_false, not_false_eq_true, true_or, or_true, false_or, or_false, true_and, and_true, and_false, false_and, Classical.not_not, Nat.add_zero, z_01, z_em, z_bit_p, Nat.not_le, Nat.not_lt, reduceCtorEq, if_true, if_false]
        rw [e_X12_read_139_13]
        simp (disch := omega) only [e_X12_read_139_71, q_bd_l, z_ltT, z_ltF, z_eqT, z_eqF, z_ltlT, z_ltlF, z_lltT, z_lltF, z_eqlT, z_eqlF, z_in, z_k7, z_cl, z_lneg, z_llT, z_llF, z_s1, z_nI_cl, z_nlt0, z_ne_m1, z_b0, z_b1, z_la, z_al, z_lm, z_ml, z_nm, nI_add, pk_mul, ↓reduceIte, not_true_eq_false, not_false_eq_true, true_or, or_true, false_or, or_false, true_and, and_true, and_false, false_and, Classical.not_not, Nat.add_zero, z_01, z_em, z_bit_p, Nat.not_le, Nat.not_lt, reduceCtorEq, if_true, if_false]
      · rw [if_neg c1]
        by_cases c2 : t_isS 59 B N q1 = true
        · rw [if_pos c2]
          have hn2 := t_isS_nx c2
          have e1 : t_sk B N (q1 + 1) = t_nx B N q1 := by rw [← t_end_S c2 rfl rfl]; rfl
          have nx := ih (i + 1) (q1 + 1) n' m' r' J (by omega) (by omega) x4 ho'
          rw [e1] at nx
          have st2 : q_bd (z_v (z_A J q) T) (fun v9 h' => q_res X q_sb q_pg (d + 8) cd_X12_read 40 [some (.ref 139), some (.int 0), some (.int 1), some (.int (nI i))] (v9.toList ++ []) h') = c_X12_read_139_13 X (d + 8) 0 1 (nI (i + 1)) (z_A J (q1 + 1)) T := by
            simp (disch := omega) only [k_X12_read_139_40, e_X12_read_139_40, e_X12_read_139_43, k_X12_read_139_43, e_X12_read_139_58, k_X12_read_139_58, sk1, j13', j10', z_A_11, sg, c2, z_A_w, q_bd_l, z_ltT, z_ltF, z_eqT, z_eqF, z_ltlT, z_ltlF, z_lltT, z_lltF, z_eqlT, z_eqlF, z_in, z_k7, z_cl, z_lneg, z_llT, z_llF, z_s1, z_nI_cl, z_nlt0, z_ne_m1, z_b0, z_b1, z_la, z_al, z_lm, z_ml, z_nm, nI_add, pk_mul, ↓reduceIte, not_true_eq_false, not_false_eq_true, true_or, or_true, false_or, or_false, true_and, and_true, and_false, false_and, Classical.not_not, Nat.add_zero, z_01, z_em, z_bit_p, Nat.not_le, Nat.not_lt, reduceCtorEq, if_true, if_false]
          rw [st2]
          refine ⟨fun r'' e => ?_, fun e he => ?_⟩
          · obtain ⟨v, K, y1, y2, y3, y4⟩ := nx.1 r'' e
            exact ⟨v, K, y1, y2, y3, z_fr_t x5 y4⟩
          · obtain ⟨v, K, y1, y2, y3, y4⟩ := nx.2 e he
            exact ⟨v, K, y1, y2, y3, z_fr_t x5 y4⟩
        · rw [if_neg c2]
          refine ⟨fun r'' e => (by cases e), fun e he => ?_⟩
          cases he
          have wr := l_wrong X (d + 7) (nI q1) (z_A J q1) T (j13' _)
          have f := l_F_wr x4.1 q1 hq1 hq1
          refine ⟨nI i + 1, _, ?_, f.1, hq1, z_fr_t x5 f.2.2.2.1⟩
          simp (disch := omega) only [k_X12_read_139_40, e_X12_read_139_40, e_X12_read_139_43, k_X12_read_139_43, e_X12_read_139_58, k_X12_read_139_58, e_X12_read_139_70, k_X12_read_139_70, sk1, j13', j10', z_A_11, sg, c2, wr, q_bd_l, z_ltT, z_ltF, z_eqT, z_eqF, z_ltlT, z_ltlF, z_lltT, z_lltF, z_eqlT, z_eqlF, z_in, z_k7, z_cl, z_lneg, z_llT, z_llF, z_s1, z_nI_cl, z_nlt0, z_ne_m1, z_b0, z_b1, z_la, z_al, z_lm, z_ml, z_nm, nI_add, pk_mul, ↓reduceIte, not_true_eq_false, not_false_eq_true, true_or, or_true, false_or, or_false, true_and, and_true, and_false, false_and, Classical.not_not, Nat.add_zero, z_01, z_em, z_bit_p, Nat.not_le, Nat.not_lt, reduceCtorEq, if_true, if_false]
          rw [e_X12_read_139_13]
          simp (disch := omega) only [e_X12_read_139_71, l_F_ne f, q_bd_l, z_ltT, z_ltF, z_eqT, z_eqF, z_ltlT, z_ltlF, z_lltT, z_lltF, z_eqlT, z_eqlF, z_in, z_k7, z_cl, z_lneg, z_llT, z_llF, z_s1, z_nI_cl, z_nlt0, z_ne_m1, z_b0, z_b1, z_la, z_al, z_lm, z_ml, z_nm, nI_add, pk_mul, ↓reduceIte, not_true_eq_false, not_false_eq_true, true_or, or_true, false_or, or_false, true_and, and_true, and_false, false_and, Classical.not_not, Nat.add_zero, z_01, z_em, z_bit_p, Nat.not_le, Nat.not_lt, reduceCtorEq, if_true, if_false]
/-- what begins() leaves -/
def z_bg (I : Ii) (v : Int32) : Ii := q_w (q_w (q_w (q_w (q_w (q_w (q_w I 139 13 (-1)) 139 9 (-1)) 139 10 (I 139 8)) 139 8 0) 139 11 0) 139 14 0) 139 12 v
theorem l_begins (X : Sx) (d : Nat) (v : Int32) (I : Ii) (T : Tt) : c_X12_begins_139 X (d + 1) v I T = z_v (z_bg I v) T := e_X12_begins_139 X d v I T
def m_bg (a k : Nat) : Bool := a == 139 && (k == 8 || k == 9 || k == 10 || k == 11 || k == 12 || k == 13 || k == 14)
theorem z_bg_fr (I : Ii) (v : Int32) : z_fr m_bg I (z_bg I v) := z_fr_w (z_fr_w (z_fr_w (z_fr_w (z_fr_w (z_fr_w (z_fr_w (z_fr_r _ _) 139 13 _ rfl) 139 9 _ rfl) 139 10 _ rfl) 139 8 _ rfl) 139 11 _ rfl) 139 14 _ rfl) 139 12 _ rfl
theorem z_bg_c (I : Ii) (v : Int32) : z_bg I v 139 13 = -1 ∧ z_bg I v 139 9 = -1 ∧ z_bg I v 139 10 = I 139 8 ∧ z_bg I v 139 8 = 0 ∧ z_bg I v 139 11 = nI 0 ∧ z_bg I v 139 14 = nI 0 ∧ z_bg I v 139 12 = v := by
  unfold z_bg
  refine ⟨?_, ?_, ?_, ?_, ?_, ?_, ?_⟩
  · rw [z_w_k _ _ _ _ _ (by decide), z_w_k _ _ _ _ _ (by decide), z_w_k _ _ _ _ _ (by decide), z_w_k _ _ _ _ _ (by decide), z_w_k _ _ _ _ _ (by decide), z_w_k _ _ _ _ _ (by decide), z_w_s]
  · rw [z_w_k _ _ _ _ _ (by decide), z_w_k _ _ _ _ _ (by decide), z_w_k _ _ _ _ _ (by decide), z_w_k _ _ _ _ _ (by decide), z_w_k _ _ _ _ _ (by decide), z_w_s]
  · rw [z_w_k _ _ _ _ _ (by decide), z_w_k _ _ _ _ _ (by decide), z_w_k _ _ _ _ _ (by decide), z_w_k _ _ _ _ _ (by decide), z_w_s]
  · rw [z_w_k _ _ _ _ _ (by decide), z_w_k _ _ _ _ _ (by decide), z_w_k _ _ _ _ _ (by decide), z_w_s]
  · rw [z_w_k _ _ _ _ _ (by decide), z_w_k _ _ _ _ _ (by decide), z_w_s]; rfl
  · rw [z_w_k _ _ _ _ _ (by decide), z_w_s]; rfl
  · rw [z_w_s]
theorem z_bg_tx {I : Ii} {B : Nat → Nat} {N : Nat} {v : Int32} (h : z_Tr I B N) (hN : N ≤ 400) (hB : ∀ k, k < N → B k < 256) : z_tx (z_bg I v) B N := by
  obtain ⟨c1, c2, c3, c4, c5, c6, c7⟩ := z_bg_c I v
  exact ⟨hN, by rw [c3]; exact h.1, hB, .inl ⟨c2, fun k hk => by rw [z_bg_fr I v 144 k rfl]; exact h.2 k hk⟩⟩
theorem l_cread (X : Sx) (d : Nat) (I : Ii) (T : Tt) {B : Nat → Nat} {N n m : Nat} {r : Nat → Int32} (h : l_ch I B N r) (ho : R_ok r n m) (h11 : I 139 11 = nI 0) : z_cs2 I T N (C_cab B N r) (c_X12_read_139 X (d + 9) 0 I T) := by
  have n1 := h.1.1
  have e0 : z_A I 0 = I := z_A_id h11
  have sk := l_skip X (d + 6) I T h.1 0 (by omega)
  rw [e0] at sk
  have hs := t_sk_le (B := B) (n := N) (p := 0) (by omega)
  have hss := t_sk_sk B N 0
  have L := l_cls X d T 14 0 (t_sk B N 0) n m r I (by omega) hs h ho
  rw [hss] at L
  unfold C_cab
  generalize t_sk B N 0 = s at *
  have j10' : ∀ p, z_A I p 139 10 = nI N := fun p => by rw [z_A_k _ _ _ (by decide)]; exact h.1.2.1
  rw [e_X12_read_139, sk]
  by_cases c : s = N
  · rw [if_pos c]
    refine ⟨fun r' e => ?_, fun e he => (by cases he)⟩
    cases e
    subst c
    refine ⟨0, z_A I s, ?_, by rw [z_A_k _ _ _ (by decide)]; exact h.2.2.1, by rw [z_A_a _ _ _ (by decide)]; exact h.2.2.2.2, z_pc_p (z_A_fr I _)⟩
    simp (disch := omega) only [e_X12_read_139_2, k_X12_read_139_2, e_X12_read_139_10, z_A_11, j10', q_bd_l, z_ltT, z_ltF, z_eqT, z_eqF, z_ltlT, z_ltlF, z_lltT, z_lltF, z_eqlT, z_eqlF, z_in, z_k7, z_cl, z_lneg, z_llT, z_llF, z_s1, z_nI_cl, z_nlt0, z_ne_m1, z_b0, z_b1, z_la, z_al, z_lm, z_ml, z_nm, nI_add, pk_mul, ↓reduceIte, not_true_eq_false, not_false_eq_true, true_or, or_true, false_or, or_false, true_and, and_true, and_false, false_and, Classical.not_not, Nat.add_zero, z_01, z_em, z_bit_p, Nat.not_le, Nat.not_lt, reduceCtorEq, if_true, if_false]
    rw [e_X12_read_139_13]
    simp (disch := omega) only [e_X12_read_139_71, q_bd_l, z_ltT, z_ltF, z_eqT, z_eqF, z_ltlT, z_ltlF, z_lltT, z_lltF, z_eqlT, z_eqlF, z_in, z_k7, z_cl, z_lneg, z_llT, z_llF, z_s1, z_nI_cl, z_nlt0, z_ne_m1, z_b0, z_b1, z_la, z_al, z_lm, z_ml, z_nm, nI_add, pk_mul, ↓reduceIte, not_true_eq_false, not_false_eq_true, true_or, or_true, false_or, or_false, true_and, and_true, and_false, false_and, Classical.not_not, Nat.add_zero, z_01, z_em, z_bit_p, Nat.not_le, Nat.not_lt, reduceCtorEq, if_true, if_false]
  · rw [if_neg c]
    have st : q_bd (z_v (z_A I s) T) (fun v9 h' => q_res X q_sb q_pg (d + 8) cd_X12_read 2 [some (.ref 139), some (.int 0), none, none] (v9.toList ++ []) h') = c_X12_read_139_13 X (d + 8) 0 1 (nI 0) (z_A I s) T := by
      simp (disch := omega) only [e_X12_read_139_2, k_X12_read_139_2, e_X12_read_139_10, z_A_11, j10', q_bd_l, z_ltT, z_ltF, z_eqT, z_eqF, z_ltlT, z_ltlF, z_lltT, z_lltF, z_eqlT, z_eqlF, z_in, z_k7, z_cl, z_lneg, z_llT, z_llF, z_s1, z_nI_cl, z_nlt0, z_ne_m1, z_b0, z_b1, z_la, z_al, z_lm, z_ml, z_nm, nI_add, pk_mul, ↓reduceIte, not_true_eq_false, not_false_eq_true, true_or, or_true, false_or, or_false, true_and, and_true, and_false, false_and, Classical.not_not, Nat.add_zero, z_01, z_em, z_bit_p, Nat.not_le, Nat.not_lt, reduceCtorEq, if_true, if_false]
      rfl
    rw [st]
    exact L
