/-! ===== THE REFERENCE READS THE CABINET: a jar, a need, a line, lines ===== -/
def z_cb (I : Ii) (T : Tt) (B : Nat → Nat) (N : Nat) (res : Cr) (x : Rs) : Prop := (∀ q1 r', res = .ok (q1, r') → ∃ q J, q ≤ N ∧ t_sk B N q = q1 ∧ x = z_v (z_A J q) T ∧ l_ch J B N r' ∧ z_fr m_pc I J) ∧ (∀ e, res = .error e → ∃ J, x = z_v J T ∧ l_F I J B N e)
theorem z_cb_e {I : Ii} {T : Tt} {B : Nat → Nat} {N e : Nat} {x : Rs} {J : Ii} (h1 : x = z_v J T) (h2 : l_F I J B N e) : z_cb I T B N (.error e) x := ⟨fun _ _ h => (by cases h), fun e' h => by cases h; exact ⟨J, h1, h2⟩⟩
theorem z_cb_o {I : Ii} {T : Tt} {B : Nat → Nat} {N q1 : Nat} {r' : Nat → Int32} {x : Rs} {q : Nat} {J : Ii} (hq : q ≤ N) (hs : t_sk B N q = q1) (h1 : x = z_v (z_A J q) T) (h2 : l_ch J B N r') (h3 : z_fr m_pc I J) : z_cb I T B N (.ok (q1, r')) x := ⟨fun _ _ h => by cases h; exact ⟨q, J, hq, hs, h1, h2, h3⟩, fun _ h => (by cases h)⟩
theorem z_cb_m {I J : Ii} {T : Tt} {B : Nat → Nat} {N : Nat} {res : Cr} {x : Rs} (h : z_cb J T B N res x) (hf : z_fr m_pc I J) : z_cb I T B N res x := ⟨fun q1 r' e => by
  obtain ⟨q, K, h1, h2, h3, h4, h5⟩ := h.1 q1 r' e
  exact ⟨q, K, h1, h2, h3, h4, z_fr_t hf h5⟩, fun e he => by
  obtain ⟨K, h1, h2⟩ := h.2 e he
  exact ⟨K, h1, l_F_m h2 hf⟩⟩
theorem l_jar3 (X : Sx) (d : Nat) (I : Ii) (T : Tt) {B : Nat → Nat} {N n : Nat} {r r5 : Nat → Int32} {lq pl sp so se : Int32} (h : l_ch I B N r5) (hr : r5 = va_up (va_up (va_up (va_up (va_up r (12 + 13 * n + 0) lq) (12 + 13 * n + 1) pl) (12 + 13 * n + 2) sp) (12 + 13 * n + 3) so) (12 + 13 * n + 4) se) (h3 : r 3 = nI n) (hn : n < 10) (v1 v3 v4 : Int32) (p : Nat) (hp : p ≤ N) : z_cb I T B N (C_jar3 B N n lq pl sp so se r (t_sk B N p)) (c_X12_jarLine_139_89 X (d + 4) v1 (nI n) v3 v4 (z_A I p) T) := by
  have g1 := l_ch_w h (12 + 13 * n + 5) (nI n)
  have g2 := l_ch_w g1 (12 + 13 * n + 6) 0
  have fI : z_fr m_pc I (q_w (q_w I 140 (12 + 13 * n + 5) (nI n)) 140 (12 + 13 * n + 6) 0) := z_fr_w (z_fr_w (z_fr_r _ _) 140 _ _ (m_pc_k (by omega))) 140 _ _ (m_pc_k (by omega))
  have st : c_X12_jarLine_139_89 X (d + 4) v1 (nI n) v3 v4 (z_A I p) T = c_X12_jarLine_139_99 X (d + 4) v1 (nI n) v3 v4 (z_A (q_w (q_w I 140 (12 + 13 * n + 5) (nI n)) 140 (12 + 13 * n + 6) 0) p) T := by
    rw [e_X12_jarLine_139_89]
    simp (disch := omega) only [e_X12_jarLine_139_94, k_X12_jarLine_139_94, k_X12_jarLine_139_99, l_has, z_A_140, q_bd_l, z_ltT, z_ltF, z_eqT, z_eqF, z_ltlT, z_ltlF, z_lltT, z_lltF, z_eqlT, z_eqlF, z_in, z_k7, z_cl, z_lneg, z_llT, z_llF, z_s1, z_nI_cl, z_nlt0, z_ne_m1, z_b0, z_b1, z_la, z_al, z_lm, z_ml, z_nm, nI_add, pk_mul, ↓reduceIte, not_true_eq_false, not_false_eq_true, true_or, or_true, false_or, or_false, true_and, and_true, and_false, false_and, Classical.not_not, Nat.add_zero, z_01, z_em, z_bit_p, Nat.not_le, Nat.not_lt, reduceCtorEq, if_true, if_false]
  rw [st]
  refine z_cb_m ?_ fI
  generalize q_w (q_w I 140 (12 + 13 * n + 5) (nI n)) 140 (12 + 13 * n + 6) 0 = I2 at *
  have S := l_six X d I2 T g2.1 g2.2.2.1 p hp
  have hs := t_sk_le (B := B) hp
  generalize t_sk B N p = s at *
  have hnl : t_nx B N s ≤ N := t_nx_le hs
  unfold C_jar3
  rw [e_X12_jarLine_139_99]
  by_cases c1 : t_isW (t_w 48) B N s = true
  · rw [if_pos c1]
    by_cases c2 : t_nf B N (t_nx B N s) = 6
    · rw [if_pos c2]
      have S1 := S.1 c1 c2
      have hw := fun t ht => (c_dig (N := N) (p := t_nx B N s) (t := t) c2 ht).2
      have n1 := h.1.1
      obtain ⟨J, ⟨j1, j2⟩, j3⟩ := z_foldP (β := Nat → Int32) (σ := Ii) (fun t _ J => c_X12_jarLine_139_109 X (d + 4) v1 (nI n) v3 v4 (nI (t_nx B N s)) (nI t) (z_A J (t_end B N (t_nx B N s))) T) (fun t r => va_up r (12 + 13 * n + (7 + t)) (nI (B (t_nx B N s + t)) - 48)) (fun t r J => l_ch J B N r ∧ z_fr m_pc I2 J) 6 (by
        intro t r J ht ⟨q1, q2⟩
        refine ⟨q_w J 140 (12 + 13 * n + (7 + t)) (nI (B (t_nx B N s + t)) - 48), ⟨l_ch_w q1 _ _, z_fr_w q2 140 _ _ (m_pc_k (by omega))⟩, ?_⟩
        have lt := l_letter X (d + 3) (z_A J (t_end B N (t_nx B N s))) T (z_tx_A q1.1 _) (t_nx B N s + t) (hw t ht)
        have hh := l_hasn X (d + 3) n (7 + t) (nI (B (t_nx B N s + t)) - 48) (z_A J (t_end B N (t_nx B N s))) T (by omega)
        rw [e_X12_jarLine_139_109]
        have e1 : nI (t_nx B N s) + nI t = nI (t_nx B N s + t) := nI_add _ _
        have e2 : (7 : Int32) + nI t = nI (7 + t) := nI_add 7 t
        have e3 : nI t < (6 : Int32) := nI_lt (b := 6) ht (by omega)
        rw [if_pos e3, e1, lt, e2]
        have k122 := k_X12_jarLine_139_122
        simp only [q_bd_l]
        rw [show (q_res X q_sb q_pg (d + 4) cd_X12_jarLine 122 [some (.ref 139), some (.int v1), some (.int (nI n)), some (.int v3), some (.int v4), some (.int (nI (t_nx B N s))), some (.int (nI t))] ((some (.int (nI (B (t_nx B N s + t))))).toList ++ [.int (nI (7 + t)), .int (nI n), .ref 139]) (q_Z0, z_A J (t_end B N (t_nx B N s)), T) : Rs) = c_X12_jarLine_139_122 X (d + 4) v1 (nI n) v3 v4 (nI (t_nx B N s)) (nI t) (nI (B (t_nx B N s + t))) (nI (7 + t)) (nI n) (z_A J (t_end B N (t_nx B N s))) T from rfl]
        rw [e_X12_jarLine_139_122, hh]
        simp (disch := omega) only [e_X12_jarLine_139_125, k_X12_jarLine_139_125, z_A_140, q_bd_l, z_ltT, z_ltF, z_eqT, z_eqF, z_ltlT, z_ltlF, z_lltT, z_lltF, z_eqlT, z_eqlF, z_in, z_k7, z_cl, z_lneg, z_llT, z_llF, z_s1, z_nI_cl, z_nlt0, z_ne_m1, z_b0, z_b1, z_la, z_al, z_lm, z_ml, z_nm, nI_add, pk_mul, ↓reduceIte, not_true_eq_false, not_false_eq_true, true_or, or_true, false_or, or_false, true_and, and_true, and_false, false_and, Classical.not_not, Nat.add_zero, z_01, z_em, z_bit_p, Nat.not_le, Nat.not_lt, reduceCtorEq, if_true, if_false]) _ I2 ⟨g2, z_fr_r _ _⟩
      refine z_cb_o (q := t_end B N (t_nx B N s)) (J := q_w J 140 3 (nI (n + 1))) (t_end_le hnl) rfl ?_ ?_ (z_fr_w j2 140 _ _ (m_pc_k (by omega)))
      · have c3 : J 140 3 = nI n := by
          rw [j1.2.2.2.2]
          rw [show z_it (fun t r => va_up r (12 + 13 * n + (7 + t)) (nI (B (t_nx B N s + t)) - 48)) 6 (va_up (va_up r5 (12 + 13 * n + 5) (nI n)) (12 + 13 * n + 6) 0) 3 = _ from C_vw_o B (t_nx B N s) n _ 3 6 (by omega) (by omega), z_up_o _ _ (by omega), z_up_o _ _ (by omega), hr, z_up_o _ _ (by omega), z_up_o _ _ (by omega), z_up_o _ _ (by omega), z_up_o _ _ (by omega), z_up_o _ _ (by omega)]
          exact h3
        have g13 := g2.2.2.1
        have st2 : c_X12_jarLine_139_109 X (d + 4) v1 (nI n) v3 v4 (nI (t_nx B N s)) (nI 6) (z_A J (t_end B N (t_nx B N s))) T = z_v (z_A (q_w J 140 3 (nI (n + 1))) (t_end B N (t_nx B N s))) T := by
          rw [e_X12_jarLine_139_109, if_neg (by decide), z_A_a _ _ _ (by decide), c3, z_s1, z_A_140]
        rw [← st2, ← j3]
        simp (disch := omega) only [e_X12_jarLine_139_101, k_X12_jarLine_139_101, S1, z_A_k, g13, q_bd_l, z_ltT, z_ltF, z_eqT, z_eqF, z_ltlT, z_ltlF, z_lltT, z_lltF, z_eqlT, z_eqlF, z_in, z_k7, z_cl, z_lneg, z_llT, z_llF, z_s1, z_nI_cl, z_nlt0, z_ne_m1, z_b0, z_b1, z_la, z_al, z_lm, z_ml, z_nm, nI_add, pk_mul, ↓reduceIte, not_true_eq_false, not_false_eq_true, true_or, or_true, false_or, or_false, true_and, and_true, and_false, false_and, Classical.not_not, Nat.add_zero, z_01, z_em, z_bit_p, Nat.not_le, Nat.not_lt, reduceCtorEq, if_true, if_false]
        rfl
      · have := l_ch_w j1 3 (nI (n + 1))
        rw [hr] at this
        exact this
    · rw [if_neg c2]
      obtain ⟨v, J, s1, s2⟩ := S.2.1 c1 c2
      refine z_cb_e (J := J) ?_ s2
      simp (disch := omega) only [e_X12_jarLine_139_101, k_X12_jarLine_139_101, s1, l_F_ne s2, q_bd_l, z_ltT, z_ltF, z_eqT, z_eqF, z_ltlT, z_ltlF, z_lltT, z_lltF, z_eqlT, z_eqlF, z_in, z_k7, z_cl, z_lneg, z_llT, z_llF, z_s1, z_nI_cl, z_nlt0, z_ne_m1, z_b0, z_b1, z_la, z_al, z_lm, z_ml, z_nm, nI_add, pk_mul, ↓reduceIte, not_true_eq_false, not_false_eq_true, true_or, or_true, false_or, or_false, true_and, and_true, and_false, false_and, Classical.not_not, Nat.add_zero, z_01, z_em, z_bit_p, Nat.not_le, Nat.not_lt, reduceCtorEq, if_true, if_false]
  · rw [if_neg c1]
    obtain ⟨v, J, s1, s2⟩ := S.2.2 c1
    refine z_cb_e (J := J) ?_ s2
    simp (disch := omega) only [e_X12_jarLine_139_101, k_X12_jarLine_139_101, s1, l_F_ne s2, q_bd_l, z_ltT, z_ltF, z_eqT, z_eqF, z_ltlT, z_ltlF, z_lltT, z_lltF, z_eqlT, z_eqlF, z_in, z_k7, z_cl, z_lneg, z_llT, z_llF, z_s1, z_nI_cl, z_nlt0, z_ne_m1, z_b0, z_b1, z_la, z_al, z_lm, z_ml, z_nm, nI_add, pk_mul, ↓reduceIte, not_true_eq_false, not_false_eq_true, true_or, or_true, false_or, or_false, true_and, and_true, and_false, false_and, Classical.not_not, Nat.add_zero, z_01, z_em, z_bit_p, Nat.not_le, Nat.not_lt, reduceCtorEq, if_true, if_false]
theorem l_jar2 (X : Sx) (d : Nat) (I : Ii) (T : Tt) {B : Nat → Nat} {N n : Nat} {r r2 : Nat → Int32} {lq pl : Int32} (h : l_ch I B N r2) (hr : r2 = va_up (va_up r (12 + 13 * n + 0) lq) (12 + 13 * n + 1) pl) (h3 : r 3 = nI n) (hn : n < 10) (v1 v3 v4 : Int32) (p : Nat) (hp : p ≤ N) : z_cb I T B N (C_jar2 B N n lq pl r (t_sk B N p)) (c_X12_jarLine_139_62 X (d + 5) v1 (nI n) v3 v4 (z_A I p) T) := by
  have h9 := h.2.1
  have A := l_aft X d I T (i := 50) (hi := 20) (by decide) (by decide) h.1 h.2.2.1 h.2.2.2.1 p hp
  unfold C_jar2
  cases ha : C_aft B N 50 20 (t_sk B N p) with
  | error e =>
    obtain ⟨v, J, a1, a2⟩ := A.2 e ha
    obtain ⟨K, k1, k2⟩ := l_jl71 X (d + 2) n hn h9 v1 v3 v4 _ T (l_F_w a2 h9 (12 + 13 * n + 2) v)
    refine z_cb_e (J := K) ?_ k2
    have a1' : c_X12_after_139 X (d + 5) (50 : UInt32) 0 20 (z_A I p) T = z_r v J T := a1
    rw [e_X12_jarLine_139_62]
    simp (disch := omega) only [e_X12_jarLine_139_70, k_X12_jarLine_139_70, k_X12_jarLine_139_71, l_has, a1', k1, q_bd_l, z_ltT, z_ltF, z_eqT, z_eqF, z_ltlT, z_ltlF, z_lltT, z_lltF, z_eqlT, z_eqlF, z_in, z_k7, z_cl, z_lneg, z_llT, z_llF, z_s1, z_nI_cl, z_nlt0, z_ne_m1, z_b0, z_b1, z_la, z_al, z_lm, z_ml, z_nm, nI_add, pk_mul, ↓reduceIte, not_true_eq_false, not_false_eq_true, true_or, or_true, false_or, or_false, true_and, and_true, and_false, false_and, Classical.not_not, Nat.add_zero, z_01, z_em, z_bit_p, Nat.not_le, Nat.not_lt, reduceCtorEq, if_true, if_false]
  | ok a =>
    obtain ⟨q, q1, q2, a1⟩ := A.1 a ha
    have a1' : c_X12_after_139 X (d + 5) (50 : UInt32) 0 20 (z_A I p) T = z_r (c_nm B N a) (z_A I q) T := a1
    have g := l_ch_w h (12 + 13 * n + 2) (c_nm B N a)
    have st : c_X12_jarLine_139_62 X (d + 5) v1 (nI n) v3 v4 (z_A I p) T = c_X12_jarLine_139_71 X (d + 5) v1 (nI n) v3 v4 (z_A (q_w I 140 (12 + 13 * n + 2) (c_nm B N a)) q) T := by
      rw [e_X12_jarLine_139_62]
      simp (disch := omega) only [e_X12_jarLine_139_70, k_X12_jarLine_139_70, k_X12_jarLine_139_71, l_has, a1', z_A_140, q_bd_l, z_ltT, z_ltF, z_eqT, z_eqF, z_ltlT, z_ltlF, z_lltT, z_lltF, z_eqlT, z_eqlF, z_in, z_k7, z_cl, z_lneg, z_llT, z_llF, z_s1, z_nI_cl, z_nlt0, z_ne_m1, z_b0, z_b1, z_la, z_al, z_lm, z_ml, z_nm, nI_add, pk_mul, ↓reduceIte, not_true_eq_false, not_false_eq_true, true_or, or_true, false_or, or_false, true_and, and_true, and_false, false_and, Classical.not_not, Nat.add_zero, z_01, z_em, z_bit_p, Nat.not_le, Nat.not_lt, reduceCtorEq, if_true, if_false]
    rw [st]
    dsimp only
    refine z_cb_m (J := q_w I 140 (12 + 13 * n + 2) (c_nm B N a)) ?_ (z_fr_w (z_fr_r _ _) 140 _ _ (m_pc_k (by omega)))
    generalize q_w I 140 (12 + 13 * n + 2) (c_nm B N a) = I2 at *
    have h9 := g.2.1
    have A := l_aft X d I2 T (i := 51) (hi := 99) (by decide) (by decide) g.1 g.2.2.1 g.2.2.2.1 q q1
    rw [q2] at A
    cases hb : C_aft B N 51 99 (t_nx B N a) with
    | error e =>
      obtain ⟨v, J, a1, a2⟩ := A.2 e hb
      obtain ⟨K, k1, k2⟩ := l_jl80 X (d + 2) n hn h9 v1 v3 v4 _ T (l_F_w a2 h9 (12 + 13 * n + 3) v)
      refine z_cb_e (J := K) ?_ k2
      have a1' : c_X12_after_139 X (d + 5) (51 : UInt32) 0 99 (z_A I2 q) T = z_r v J T := a1
      rw [e_X12_jarLine_139_71]
      simp (disch := omega) only [e_X12_jarLine_139_79, k_X12_jarLine_139_79, k_X12_jarLine_139_80, l_has, a1', k1, q_bd_l, z_ltT, z_ltF, z_eqT, z_eqF, z_ltlT, z_ltlF, z_lltT, z_lltF, z_eqlT, z_eqlF, z_in, z_k7, z_cl, z_lneg, z_llT, z_llF, z_s1, z_nI_cl, z_nlt0, z_ne_m1, z_b0, z_b1, z_la, z_al, z_lm, z_ml, z_nm, nI_add, pk_mul, ↓reduceIte, not_true_eq_false, not_false_eq_true, true_or, or_true, false_or, or_false, true_and, and_true, and_false, false_and, Classical.not_not, Nat.add_zero, z_01, z_em, z_bit_p, Nat.not_le, Nat.not_lt, reduceCtorEq, if_true, if_false]
    | ok b =>
      obtain ⟨q', q1', q2', a1⟩ := A.1 b hb
      have a1' : c_X12_after_139 X (d + 5) (51 : UInt32) 0 99 (z_A I2 q) T = z_r (c_nm B N b) (z_A I2 q') T := a1
      have g3 := l_ch_w g (12 + 13 * n + 3) (c_nm B N b)
      have st : c_X12_jarLine_139_71 X (d + 5) v1 (nI n) v3 v4 (z_A I2 q) T = c_X12_jarLine_139_80 X (d + 5) v1 (nI n) v3 v4 (z_A (q_w I2 140 (12 + 13 * n + 3) (c_nm B N b)) q') T := by
        rw [e_X12_jarLine_139_71]
        simp (disch := omega) only [e_X12_jarLine_139_79, k_X12_jarLine_139_79, k_X12_jarLine_139_80, l_has, a1', z_A_140, q_bd_l, z_ltT, z_ltF, z_eqT, z_eqF, z_ltlT, z_ltlF, z_lltT, z_lltF, z_eqlT, z_eqlF, z_in, z_k7, z_cl, z_lneg, z_llT, z_llF, z_s1, z_nI_cl, z_nlt0, z_ne_m1, z_b0, z_b1, z_la, z_al, z_lm, z_ml, z_nm, nI_add, pk_mul, ↓reduceIte, not_true_eq_false, not_false_eq_true, true_or, or_true, false_or, or_false, true_and, and_true, and_false, false_and, Classical.not_not, Nat.add_zero, z_01, z_em, z_bit_p, Nat.not_le, Nat.not_lt, reduceCtorEq, if_true, if_false]
      rw [st]
      dsimp only
      refine z_cb_m (J := q_w I2 140 (12 + 13 * n + 3) (c_nm B N b)) ?_ (z_fr_w (z_fr_r _ _) 140 _ _ (m_pc_k (by omega)))
      generalize q_w I2 140 (12 + 13 * n + 3) (c_nm B N b) = I3 at *
      have h9 := g3.2.1
      have A := l_aft X d I3 T (i := 52) (hi := 9) (by decide) (by decide) g3.1 g3.2.2.1 g3.2.2.2.1 q' q1'
      rw [q2'] at A
      cases hc : C_aft B N 52 9 (t_nx B N b) with
      | error e =>
        obtain ⟨v, J, a1, a2⟩ := A.2 e hc
        obtain ⟨K, k1, k2⟩ := l_jl89 X (d + 2) n hn h9 v1 v3 v4 _ T (l_F_w a2 h9 (12 + 13 * n + 4) v)
        refine z_cb_e (J := K) ?_ k2
        have a1' : c_X12_after_139 X (d + 5) (52 : UInt32) 0 9 (z_A I3 q') T = z_r v J T := a1
        rw [e_X12_jarLine_139_80]
        simp (disch := omega) only [e_X12_jarLine_139_88, k_X12_jarLine_139_88, k_X12_jarLine_139_89, l_has, a1', k1, q_bd_l, z_ltT, z_ltF, z_eqT, z_eqF, z_ltlT, z_ltlF, z_lltT, z_lltF, z_eqlT, z_eqlF, z_in, z_k7, z_cl, z_lneg, z_llT, z_llF, z_s1, z_nI_cl, z_nlt0, z_ne_m1, z_b0, z_b1, z_la, z_al, z_lm, z_ml, z_nm, nI_add, pk_mul, ↓reduceIte, not_true_eq_false, not_false_eq_true, true_or, or_true, false_or, or_false, true_and, and_true, and_false, false_and, Classical.not_not, Nat.add_zero, z_01, z_em, z_bit_p, Nat.not_le, Nat.not_lt, reduceCtorEq, if_true, if_false]
      | ok c =>
        obtain ⟨q'', q1'', q2'', a1⟩ := A.1 c hc
        have a1' : c_X12_after_139 X (d + 5) (52 : UInt32) 0 9 (z_A I3 q') T = z_r (c_nm B N c) (z_A I3 q'') T := a1
        have g4 := l_ch_w g3 (12 + 13 * n + 4) (c_nm B N c)
        have st : c_X12_jarLine_139_80 X (d + 5) v1 (nI n) v3 v4 (z_A I3 q') T = c_X12_jarLine_139_89 X (d + 5) v1 (nI n) v3 v4 (z_A (q_w I3 140 (12 + 13 * n + 4) (c_nm B N c)) q'') T := by
          rw [e_X12_jarLine_139_80]
          simp (disch := omega) only [e_X12_jarLine_139_88, k_X12_jarLine_139_88, k_X12_jarLine_139_89, l_has, a1', z_A_140, q_bd_l, z_ltT, z_ltF, z_eqT, z_eqF, z_ltlT, z_ltlF, z_lltT, z_lltF, z_eqlT, z_eqlF, z_in, z_k7, z_cl, z_lneg, z_llT, z_llF, z_s1, z_nI_cl, z_nlt0, z_ne_m1, z_b0, z_b1, z_la, z_al, z_lm, z_ml, z_nm, nI_add, pk_mul, ↓reduceIte, not_true_eq_false, not_false_eq_true, true_or, or_true, false_or, or_false, true_and, and_true, and_false, false_and, Classical.not_not, Nat.add_zero, z_01, z_em, z_bit_p, Nat.not_le, Nat.not_lt, reduceCtorEq, if_true, if_false]
        rw [st]
        dsimp only
        refine z_cb_m (J := q_w I3 140 (12 + 13 * n + 4) (c_nm B N c)) ?_ (z_fr_w (z_fr_r _ _) 140 _ _ (m_pc_k (by omega)))
        have fin := l_jar3 X (d + 1) (q_w I3 140 (12 + 13 * n + 4) (c_nm B N c)) T (r := r) (lq := lq) (pl := pl) (sp := c_nm B N a) (so := c_nm B N b) (se := c_nm B N c) g4 (by rw [hr]) h3 hn v1 v3 v4 q'' q1''
        rw [q2''] at fin
        exact fin
theorem R_on_up {r : Nat → Int32} {n : Nat} (lq v : Int32) : R_on (va_up r (12 + 13 * n + 0) lq) n v = R_on r n v := by
  unfold R_on
  exact z_fst_c (fun j hj => by rw [z_up_o _ _ (by omega)])
theorem l_jar (X : Sx) (d : Nat) (I : Ii) (T : Tt) {B : Nat → Nat} {N n : Nat} {r : Nat → Int32} (h : l_ch I B N r) (h3 : r 3 = nI n) (hn : n < 10) (v1 : Int32) (p : Nat) (hp : p ≤ N) : z_cb I T B N (C_jar B N n r (t_sk B N p)) (c_X12_jarLine_139_9 X (d + 5) v1 (z_A I p) T) := by
  have hx := h.1
  have h9 := h.2.1
  have h13 := h.2.2.1
  have hD := h.2.2.2.1
  have n1 := hx.1
  have i3 : I 140 3 = nI n := by rw [h.2.2.2.2]; exact h3
  have hs := t_sk_le (B := B) hp
  have LQ := l_liqW X (d + 1) I T hx h13 p hp
  have hlq := c_lq_le B N (t_sk B N p)
  unfold C_jar
  generalize t_sk B N p = s at *
  by_cases c1 : c_lq B N s = 3
  · rw [if_pos c1]
    have L := LQ.2 c1
    have f := l_F_w (l_F_wr hx s hs hs) h9 (12 + 13 * n + 0) (-1)
    obtain ⟨K, k1, k2⟩ := l_jl25 X (d + 2) n hn h9 v1 _ T f
    refine z_cb_e (J := K) ?_ k2
    rw [e_X12_jarLine_139_9]
    simp (disch := omega) only [e_X12_jarLine_139_24, k_X12_jarLine_139_24, k_X12_jarLine_139_25, z_A_k, z_A_a, h13, i3, L, l_has, q_bd_l, z_ltT, z_ltF, z_eqT, z_eqF, z_ltlT, z_ltlF, z_lltT, z_lltF, z_eqlT, z_eqlF, z_in, z_k7, z_cl, z_lneg, z_llT, z_llF, z_s1, z_nI_cl, z_nlt0, z_ne_m1, z_b0, z_b1, z_la, z_al, z_lm, z_ml, z_nm, nI_add, pk_mul, ↓reduceIte, not_true_eq_false, not_false_eq_true, true_or, or_true, false_or, or_false, true_and, and_true, and_false, false_and, Classical.not_not, Nat.add_zero, z_01, z_em, z_bit_p, Nat.not_le, Nat.not_lt, reduceCtorEq, if_true, if_false]
    exact k1
  · rw [if_neg c1]
    obtain ⟨q, q1, q2, L⟩ := LQ.1 (by omega)
    have g := l_ch_w h (12 + 13 * n + 0) (nI (c_lq B N s))
    have st : c_X12_jarLine_139_9 X (d + 5) v1 (z_A I p) T = c_X12_jarLine_139_25 X (d + 5) v1 (nI n) (z_A (q_w I 140 (12 + 13 * n + 0) (nI (c_lq B N s))) q) T := by
      rw [e_X12_jarLine_139_9]
      simp (disch := omega) only [e_X12_jarLine_139_24, k_X12_jarLine_139_24, k_X12_jarLine_139_25, z_A_k, z_A_a, h13, i3, L, l_has, z_A_140, q_bd_l, z_ltT, z_ltF, z_eqT, z_eqF, z_ltlT, z_ltlF, z_lltT, z_lltF, z_eqlT, z_eqlF, z_in, z_k7, z_cl, z_lneg, z_llT, z_llF, z_s1, z_nI_cl, z_nlt0, z_ne_m1, z_b0, z_b1, z_la, z_al, z_lm, z_ml, z_nm, nI_add, pk_mul, ↓reduceIte, not_true_eq_false, not_false_eq_true, true_or, or_true, false_or, or_false, true_and, and_true, and_false, false_and, Classical.not_not, Nat.add_zero, z_01, z_em, z_bit_p, Nat.not_le, Nat.not_lt, reduceCtorEq, if_true, if_false]
    rw [st]
    refine z_cb_m (J := q_w I 140 (12 + 13 * n + 0) (nI (c_lq B N s))) ?_ (z_fr_w (z_fr_r _ _) 140 _ _ (m_pc_k (by omega)))
    generalize q_w I 140 (12 + 13 * n + 0) (nI (c_lq B N s)) = I2 at *
    have hx := g.1
    have h9 := g.2.1
    have h13 := g.2.2.1
    have hD := g.2.2.2.1
    have i3 : I2 140 3 = nI n := by rw [g.2.2.2.2, z_up_o _ _ (by omega)]; exact h3
    have W := l_wordN X (d + 2) 49 (by decide) I2 T hx q q1
    rw [q2] at W
    have hnl : t_nx B N s ≤ N := t_nx_le hs
    have h13' : ∀ p, z_A I2 p 139 13 = -1 := fun p => by rw [z_A_k _ _ _ (by decide)]; exact h13
    by_cases c2 : t_isW (t_w 49) B N (t_nx B N s) = true
    · rw [if_pos c2]
      rw [if_pos c2] at W
      have W' : c_X12_has__139 X (d + 5) (49 : UInt32) (z_A I2 q) T = _ := W
      have hW := t_end_W (w := t_w 49) (by decide) c2
      have pl := l_place X (d + 2) I2 T hx (t_nx B N s + (t_w 49).length) hW.2
      rw [hW.1] at pl
      have hnl2 : t_nx B N (t_nx B N s) ≤ N := t_nx_le hnl
      have hsk : t_sk B N (t_nx B N (t_nx B N s)) = t_nx B N (t_nx B N s) := t_sk_at (t_nx_at hnl)
      have F := l_fig X (d + 1) 0 11 I2 T hx h13 4 (by omega) hD (t_nx B N (t_nx B N s)) hnl2
      rw [hsk] at F
      have st2 : c_X12_jarLine_139_25 X (d + 5) v1 (nI n) (z_A I2 q) T = c_X12_jarLine_139_39 X (d + 5) v1 (nI n) (nI (t_nx B N (t_nx B N s))) (z_A I2 (t_nx B N (t_nx B N s))) T := by
        rw [e_X12_jarLine_139_25]
        simp (disch := omega) only [e_X12_jarLine_139_32, k_X12_jarLine_139_32, e_X12_jarLine_139_37, k_X12_jarLine_139_39, h13', W', c2, pl, q_bd_l, z_ltT, z_ltF, z_eqT, z_eqF, z_ltlT, z_ltlF, z_lltT, z_lltF, z_eqlT, z_eqlF, z_in, z_k7, z_cl, z_lneg, z_llT, z_llF, z_s1, z_nI_cl, z_nlt0, z_ne_m1, z_b0, z_b1, z_la, z_al, z_lm, z_ml, z_nm, nI_add, pk_mul, ↓reduceIte, not_true_eq_false, not_false_eq_true, true_or, or_true, false_or, or_false, true_and, and_true, and_false, false_and, Classical.not_not, Nat.add_zero, z_01, z_em, z_bit_p, Nat.not_le, Nat.not_lt, reduceCtorEq, if_true, if_false]
      rw [st2]
      generalize t_nx B N (t_nx B N s) = w at *
      by_cases c3 : t_isN 0 11 4 B N w = true
      · rw [if_pos c3]
        have F1 := F.1 c3
        have F1' : c_X12_figures_139 X (d + 5) 0 11 (z_A I2 w) T = z_r (c_nm B N w) (z_A I2 (t_end B N w)) T := F1
        have ja := l_jarAt X (d + 3) (c_nm B N w) (z_A I2 (t_end B N w)) T n (by rw [z_A_a _ _ _ (by decide)]; exact i3) (by omega)
        rw [z_A_a _ _ _ (by decide), g.2.2.2.2] at ja
        have er : z_fst (fun j => decide (va_up r (12 + 13 * n + 0) (nI (c_lq B N s)) (12 + 13 * j + 1) = c_nm B N w)) n = R_on r n (c_nm B N w) := R_on_up (n := n) _ _
        rw [er] at ja
        by_cases c4 : R_on r n (c_nm B N w) < n
        · rw [if_pos c4]
          rw [if_pos c4] at ja
          have wr := l_wrong X (d + 4) (nI w) (z_A I2 (t_end B N w)) T (h13' _)
          have f := l_F_wr hx (t_end B N w) (t_end_le hnl2) hnl2
          obtain ⟨K, k1, k2⟩ := l_jl57 X (d + 2) n hn h9 v1 (nI w) (c_nm B N w) _ T f
          refine z_cb_e (J := K) ?_ k2
          rw [e_X12_jarLine_139_39]
          simp (disch := omega) only [e_X12_jarLine_139_44, k_X12_jarLine_139_44, e_X12_jarLine_139_52, k_X12_jarLine_139_52, k_X12_jarLine_139_57, F1', h13', ja, wr, k1, q_bd_l, z_ltT, z_ltF, z_eqT, z_eqF, z_ltlT, z_ltlF, z_lltT, z_lltF, z_eqlT, z_eqlF, z_in, z_k7, z_cl, z_lneg, z_llT, z_llF, z_s1, z_nI_cl, z_nlt0, z_ne_m1, z_b0, z_b1, z_la, z_al, z_lm, z_ml, z_nm, nI_add, pk_mul, ↓reduceIte, not_true_eq_false, not_false_eq_true, true_or, or_true, false_or, or_false, true_and, and_true, and_false, false_and, Classical.not_not, Nat.add_zero, z_01, z_em, z_bit_p, Nat.not_le, Nat.not_lt, reduceCtorEq, if_true, if_false]
        · rw [if_neg c4]
          rw [if_neg c4] at ja
          have g2 := l_ch_w g (12 + 13 * n + 1) (c_nm B N w)
          have st3 : c_X12_jarLine_139_39 X (d + 5) v1 (nI n) (nI w) (z_A I2 w) T = c_X12_jarLine_139_62 X (d + 5) v1 (nI n) (nI w) (c_nm B N w) (z_A (q_w I2 140 (12 + 13 * n + 1) (c_nm B N w)) (t_end B N w)) T := by
            rw [e_X12_jarLine_139_39]
            simp (disch := omega) only [e_X12_jarLine_139_44, k_X12_jarLine_139_44, e_X12_jarLine_139_52, k_X12_jarLine_139_52, e_X12_jarLine_139_57, k_X12_jarLine_139_62, F1', h13', ja, l_has, z_A_140, q_bd_l, z_ltT, z_ltF, z_eqT, z_eqF, z_ltlT, z_ltlF, z_lltT, z_lltF, z_eqlT, z_eqlF, z_in, z_k7, z_cl, z_lneg, z_llT, z_llF, z_s1, z_nI_cl, z_nlt0, z_ne_m1, z_b0, z_b1, z_la, z_al, z_lm, z_ml, z_nm, nI_add, pk_mul, ↓reduceIte, not_true_eq_false, not_false_eq_true, true_or, or_true, false_or, or_false, true_and, and_true, and_false, false_and, Classical.not_not, Nat.add_zero, z_01, z_em, z_bit_p, Nat.not_le, Nat.not_lt, reduceCtorEq, if_true, if_false]
          rw [st3]
          refine z_cb_m (J := q_w I2 140 (12 + 13 * n + 1) (c_nm B N w)) ?_ (z_fr_w (z_fr_r _ _) 140 _ _ (m_pc_k (by omega)))
          exact l_jar2 X d _ T g2 rfl h3 hn v1 (nI w) (c_nm B N w) (t_end B N w) (t_end_le hnl2)
      · rw [if_neg c3]
        obtain ⟨v, J, F1, F2, F3, F4⟩ := F.2 c3
        have f := l_F_0 hx F2 hnl2 (z_aw_m F3 (by omega)) F4
        obtain ⟨K, k1, k2⟩ := l_jl44 X (d + 2) n hn h9 v1 (nI w) v _ T f
        refine z_cb_e (J := K) ?_ k2
        rw [e_X12_jarLine_139_39]
        simp (disch := omega) only [k_X12_jarLine_139_44, F1, k1, q_bd_l, z_ltT, z_ltF, z_eqT, z_eqF, z_ltlT, z_ltlF, z_lltT, z_lltF, z_eqlT, z_eqlF, z_in, z_k7, z_cl, z_lneg, z_llT, z_llF, z_s1, z_nI_cl, z_nlt0, z_ne_m1, z_b0, z_b1, z_la, z_al, z_lm, z_ml, z_nm, nI_add, pk_mul, ↓reduceIte, not_true_eq_false, not_false_eq_true, true_or, or_true, false_or, or_false, true_and, and_true, and_false, false_and, Classical.not_not, Nat.add_zero, z_01, z_em, z_bit_p, Nat.not_le, Nat.not_lt, reduceCtorEq, if_true, if_false]
    · rw [if_neg c2]
      rw [if_neg c2] at W
      have W' : c_X12_has__139 X (d + 5) (49 : UInt32) (z_A I2 q) T = _ := W
      have f := l_F_wr hx (t_nx B N s) hnl hnl
      have wr := l_wrong X (d + 4) (nI (t_nx B N s)) (z_A I2 (t_nx B N s)) T (h13' _)
      obtain ⟨K, k1, k2⟩ := l_jl37 X (d + 2) n hn h9 v1 _ T f
      refine z_cb_e (J := K) ?_ k2
      rw [e_X12_jarLine_139_25]
      simp (disch := omega) only [e_X12_jarLine_139_32, k_X12_jarLine_139_32, k_X12_jarLine_139_37, h13', W', c2, z_A_11, wr, k1, q_bd_l, z_ltT, z_ltF, z_eqT, z_eqF, z_ltlT, z_ltlF, z_lltT, z_lltF, z_eqlT, z_eqlF, z_in, z_k7, z_cl, z_lneg, z_llT, z_llF, z_s1, z_nI_cl, z_nlt0, z_ne_m1, z_b0, z_b1, z_la, z_al, z_lm, z_ml, z_nm, nI_add, pk_mul, ↓reduceIte, not_true_eq_false, not_false_eq_true, true_or, or_true, false_or, or_false, true_and, and_true, and_false, false_and, Classical.not_not, Nat.add_zero, z_01, z_em, z_bit_p, Nat.not_le, Nat.not_lt, reduceCtorEq, if_true, if_false]
