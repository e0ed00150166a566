/-! ===== THE REFERENCE READS THE CABINET ===== -/
def m_pc (a k : Nat) : Bool := m_p a k || (a == 140 && Nat.blt k 484)
theorem m_pc_k {k : Nat} (h : k < 484) : m_pc 140 k = true := by
  have : Nat.blt k 484 = true := by simpa using h
  simp [m_pc, this]
theorem z_pc_p {I J : Ii} (h : z_fr m_p I J) : z_fr m_pc I J := z_fr_m h (fun a k h => by simp [m_pc, h])
def l_ch (I : Ii) (B : Nat → Nat) (N : Nat) (r : Nat → Int32) : Prop := z_tx I B N ∧ I 139 9 = -1 ∧ I 139 13 = -1 ∧ I 139 12 = nI 4 ∧ I 140 = r
theorem z_tx_pc {I J : Ii} {B : Nat → Nat} {N : Nat} (h : z_tx I B N) (h9 : I 139 9 = -1) (hf : z_fr m_pc I J) : z_tx J B N := by
  obtain ⟨h1, h2, h3, h4⟩ := h
  refine ⟨h1, by rw [hf 139 10 rfl]; exact h2, h3, .inl ⟨by rw [hf 139 9 rfl]; exact h9, fun k hk => ?_⟩⟩
  rw [hf 144 k rfl]
  rcases h4 with ⟨_, h5⟩ | ⟨h4, _⟩
  · exact h5 k hk
  · rw [h9] at h4; exact absurd h4 (by decide)
theorem l_ch_w {I : Ii} {B : Nat → Nat} {N : Nat} {r : Nat → Int32} (h : l_ch I B N r) (k : Nat) (v : Int32) (hk : k < 484 := by omega) : l_ch (q_w I 140 k v) B N (va_up r k v) := by
  obtain ⟨h1, h2, h3, h4, h5⟩ := h
  refine ⟨z_tx_pc h1 h2 (z_fr_w (z_fr_r _ _) 140 k v (m_pc_k hk)), by rw [z_w_a _ _ _ _ _ (by decide)]; exact h2, by rw [z_w_a _ _ _ _ _ (by decide)]; exact h3, by rw [z_w_a _ _ _ _ _ (by decide)]; exact h4, ?_⟩
  subst h5
  funext i
  rw [z_w]
  unfold va_up
  by_cases e : i = k
  · rw [if_pos ⟨rfl, e⟩, if_pos e]
  · rw [if_neg (fun c => e c.2), if_neg e]
theorem z_A_140 (I : Ii) (p k : Nat) (v : Int32) : q_w (z_A I p) 140 k v = z_A (q_w I 140 k v) p := z_w_sw I 139 11 140 k _ _ (.inl (by decide))
/-- a skip where a fault stands -/
theorem l_skipF (X : Sx) (d : Nat) (T : Tt) {B : Nat → Nat} {N b : Nat} (hb : b ≤ 1000) (J : Ii) (h : z_tx J B N) (hw : z_aw b J) : ∃ J', c_X12_skip_139 X (d + 2) J T = z_v J' T ∧ J' 139 13 = J 139 13 ∧ z_fr m_p J J' ∧ z_aw b J' := by
  obtain ⟨w, h1, h2⟩ := hw
  have hn := h.1
  by_cases c : w ≤ N
  · have e := l_skip X d J T h w c
    rw [z_A_id h1] at e
    exact ⟨_, e, by rw [z_A_k _ _ _ (by decide)], z_A_fr J _, ⟨t_sk B N w, z_A_11 _ _, by have := t_sk_le (B := B) c; omega⟩⟩
  · refine ⟨J, ?_, rfl, z_fr_r _ _, w, h1, h2⟩
    have h3 := h.2.1
    rw [e_X12_skip_139]
    simp (disch := omega) only [h1, h3, q_bd_l, z_ltT, z_ltF, z_eqT, z_eqF, z_ltlT, z_ltlF, z_lltT, z_lltF, z_eqlT, z_eqlF, z_in, z_k7, z_cl, z_lneg, z_llT, z_llF, z_s1, z_nI_cl, z_nlt0, z_ne_m1, z_b0, z_b1, z_la, z_al, z_lm, z_ml, z_nm, nI_add, pk_mul, ↓reduceIte, not_true_eq_false, not_false_eq_true, true_or, or_true, false_or, or_false, true_and, and_true, and_false, false_and, Classical.not_not, Nat.add_zero, z_01, z_em, z_bit_p, Nat.not_le, Nat.not_lt, reduceCtorEq, if_true, if_false]
/-- a state in which a fault stands -/
def l_F (I J : Ii) (B : Nat → Nat) (N e : Nat) : Prop := J 139 13 = nI e ∧ e ≤ N ∧ z_aw 6 J ∧ z_fr m_pc I J ∧ z_tx J B N
theorem l_F_w {I J : Ii} {B : Nat → Nat} {N e : Nat} (h : l_F I J B N e) (h9 : I 139 9 = -1) (k : Nat) (v : Int32) (hk : k < 484 := by omega) : l_F I (q_w J 140 k v) B N e := by
  obtain ⟨h1, h2, ⟨w, h3, h4⟩, h5, h6⟩ := h
  refine ⟨by rw [z_w_a _ _ _ _ _ (by decide)]; exact h1, h2, ⟨w, by rw [z_w_a _ _ _ _ _ (by decide)]; exact h3, h4⟩, z_fr_w h5 140 k v (m_pc_k hk), z_tx_pc h6 (by rw [h5 139 9 rfl]; exact h9) (z_fr_w (z_fr_r _ _) 140 k v (m_pc_k hk))⟩
theorem l_F_ne {I J : Ii} {B : Nat → Nat} {N e : Nat} (h : l_F I J B N e) : (J 139 13 = -1) = False := by
  have h2 := h.2.1
  have := h.2.2.2.2.1
  rw [h.1]
  exact z_ne_m1 e (by omega)
theorem l_figE (X : Sx) (d : Nat) (lo hi : Int32) (J : Ii) (T : Tt) (h : (J 139 13 = -1) = False) : c_X12_figures_139 X (d + 1) lo hi J T = z_r 0 J T := by
  rw [e_X12_figures_139]
  simp (disch := omega) only [h, q_bd_l, z_ltT, z_ltF, z_eqT, z_eqF, z_ltlT, z_ltlF, z_lltT, z_lltF, z_eqlT, z_eqlF, z_in, z_k7, z_cl, z_lneg, z_llT, z_llF, z_s1, z_nI_cl, z_nlt0, z_ne_m1, z_b0, z_b1, z_la, z_al, z_lm, z_ml, z_nm, nI_add, pk_mul, ↓reduceIte, not_true_eq_false, not_false_eq_true, true_or, or_true, false_or, or_false, true_and, and_true, and_false, false_and, Classical.not_not, Nat.add_zero, z_01, z_em, z_bit_p, Nat.not_le, Nat.not_lt, reduceCtorEq, if_true, if_false]
theorem l_aftE (X : Sx) (d : Nat) (u : UInt32) (lo hi : Int32) (J : Ii) (T : Tt) (h : (J 139 13 = -1) = False) : c_X12_after_139 X (d + 2) u lo hi J T = z_r 0 J T := by
  rw [e_X12_after_139]
  simp (disch := omega) only [e_X12_after_139_7, k_X12_after_139_7, e_X12_after_139_12, k_X12_after_139_12, e_X12_after_139_16, k_X12_after_139_16, h, l_figE X d lo hi J T h, q_bd_l, z_ltT, z_ltF, z_eqT, z_eqF, z_ltlT, z_ltlF, z_lltT, z_lltF, z_eqlT, z_eqlF, z_in, z_k7, z_cl, z_lneg, z_llT, z_llF, z_s1, z_nI_cl, z_nlt0, z_ne_m1, z_b0, z_b1, z_la, z_al, z_lm, z_ml, z_nm, nI_add, pk_mul, ↓reduceIte, not_true_eq_false, not_false_eq_true, true_or, or_true, false_or, or_false, true_and, and_true, and_false, false_and, Classical.not_not, Nat.add_zero, z_01, z_em, z_bit_p, Nat.not_le, Nat.not_lt, reduceCtorEq, if_true, if_false]
theorem l_jl99 (X : Sx) (d : Nat) (v1 v2 v3 v4 : Int32) (J : Ii) (T : Tt) (h : (J 139 13 = -1) = False) : c_X12_jarLine_139_99 X (d + 3) v1 v2 v3 v4 J T = z_v J T := by
  rw [e_X12_jarLine_139_99]
  simp (disch := omega) only [e_X12_six_139, e_X12_six_139_7, k_X12_six_139_7, e_X12_six_139_12, k_X12_six_139_12, e_X12_six_139_20, k_X12_six_139_20, e_X12_six_139_30, k_X12_six_139_30, e_X12_six_139_33, k_X12_six_139_33, e_X12_six_139_41, e_X12_six_139_50, k_X12_six_139_50, e_X12_jarLine_139_101, k_X12_jarLine_139_101, h, q_bd_l, z_ltT, z_ltF, z_eqT, z_eqF, z_ltlT, z_ltlF, z_lltT, z_lltF, z_eqlT, z_eqlF, z_in, z_k7, z_cl, z_lneg, z_llT, z_llF, z_s1, z_nI_cl, z_nlt0, z_ne_m1, z_b0, z_b1, z_la, z_al, z_lm, z_ml, z_nm, nI_add, pk_mul, ↓reduceIte, not_true_eq_false, not_false_eq_true, true_or, or_true, false_or, or_false, true_and, and_true, and_false, false_and, Classical.not_not, Nat.add_zero, z_01, z_em, z_bit_p, Nat.not_le, Nat.not_lt, reduceCtorEq, if_true, if_false]
theorem l_jl89 {B : Nat → Nat} {N e : Nat} {I : Ii} (X : Sx) (d n : Nat) (hn : n < 10) (h9 : I 139 9 = -1) (v1 v3 v4 : Int32) (J : Ii) (T : Tt) (h : l_F I J B N e) : ∃ K, c_X12_jarLine_139_89 X (d + 3) v1 (nI n) v3 v4 J T = z_v K T ∧ l_F I K B N e := by
  have f := l_F_w (l_F_w h h9 (12 + 13 * n + 5) (nI n)) h9 (12 + 13 * n + 6) 0
  refine ⟨_, ?_, f⟩
  rw [e_X12_jarLine_139_89]
  simp (disch := omega) only [e_X12_jarLine_139_94, k_X12_jarLine_139_94, k_X12_jarLine_139_99, l_has, l_jl99 X d v1 (nI n) v3 v4 _ T (l_F_ne f), q_bd_l, z_ltT, z_ltF, z_eqT, z_eqF, z_ltlT, z_ltlF, z_lltT, z_lltF, z_eqlT, z_eqlF, z_in, z_k7, z_cl, z_lneg, z_llT, z_llF, z_s1, z_nI_cl, z_nlt0, z_ne_m1, z_b0, z_b1, z_la, z_al, z_lm, z_ml, z_nm, nI_add, pk_mul, ↓reduceIte, not_true_eq_false, not_false_eq_true, true_or, or_true, false_or, or_false, true_and, and_true, and_false, false_and, Classical.not_not, Nat.add_zero, z_01, z_em, z_bit_p, Nat.not_le, Nat.not_lt, reduceCtorEq, if_true, if_false]
theorem l_jl80 {B : Nat → Nat} {N e : Nat} {I : Ii} (X : Sx) (d n : Nat) (hn : n < 10) (h9 : I 139 9 = -1) (v1 v3 v4 : Int32) (J : Ii) (T : Tt) (h : l_F I J B N e) : ∃ K, c_X12_jarLine_139_80 X (d + 3) v1 (nI n) v3 v4 J T = z_v K T ∧ l_F I K B N e := by
  obtain ⟨K, k1, k2⟩ := l_jl89 X d n hn h9 v1 v3 v4 _ T (l_F_w h h9 (12 + 13 * n + 4) 0)
  refine ⟨K, ?_, k2⟩
  rw [e_X12_jarLine_139_80]
  simp (disch := omega) only [e_X12_jarLine_139_88, k_X12_jarLine_139_88, k_X12_jarLine_139_89, l_has, l_aftE X (d + 1) _ _ _ J T (l_F_ne h), k1, q_bd_l, z_ltT, z_ltF, z_eqT, z_eqF, z_ltlT, z_ltlF, z_lltT, z_lltF, z_eqlT, z_eqlF, z_in, z_k7, z_cl, z_lneg, z_llT, z_llF, z_s1, z_nI_cl, z_nlt0, z_ne_m1, z_b0, z_b1, z_la, z_al, z_lm, z_ml, z_nm, nI_add, pk_mul, ↓reduceIte, not_true_eq_false, not_false_eq_true, true_or, or_true, false_or, or_false, true_and, and_true, and_false, false_and, Classical.not_not, Nat.add_zero, z_01, z_em, z_bit_p, Nat.not_le, Nat.not_lt, reduceCtorEq, if_true, if_false]
theorem l_jl71 {B : Nat → Nat} {N e : Nat} {I : Ii} (X : Sx) (d n : Nat) (hn : n < 10) (h9 : I 139 9 = -1) (v1 v3 v4 : Int32) (J : Ii) (T : Tt) (h : l_F I J B N e) : ∃ K, c_X12_jarLine_139_71 X (d + 3) v1 (nI n) v3 v4 J T = z_v K T ∧ l_F I K B N e := by
  obtain ⟨K, k1, k2⟩ := l_jl80 X d n hn h9 v1 v3 v4 _ T (l_F_w h h9 (12 + 13 * n + 3) 0)
  refine ⟨K, ?_, k2⟩
  rw [e_X12_jarLine_139_71]
  simp (disch := omega) only [e_X12_jarLine_139_79, k_X12_jarLine_139_79, k_X12_jarLine_139_80, l_has, l_aftE X (d + 1) _ _ _ J T (l_F_ne h), k1, q_bd_l, z_ltT, z_ltF, z_eqT, z_eqF, z_ltlT, z_ltlF, z_lltT, z_lltF, z_eqlT, z_eqlF, z_in, z_k7, z_cl, z_lneg, z_llT, z_llF, z_s1, z_nI_cl, z_nlt0, z_ne_m1, z_b0, z_b1, z_la, z_al, z_lm, z_ml, z_nm, nI_add, pk_mul, ↓reduceIte, not_true_eq_false, not_false_eq_true, true_or, or_true, false_or, or_false, true_and, and_true, and_false, false_and, Classical.not_not, Nat.add_zero, z_01, z_em, z_bit_p, Nat.not_le, Nat.not_lt, reduceCtorEq, if_true, if_false]
theorem l_jl62 {B : Nat → Nat} {N e : Nat} {I : Ii} (X : Sx) (d n : Nat) (hn : n < 10) (h9 : I 139 9 = -1) (v1 v3 v4 : Int32) (J : Ii) (T : Tt) (h : l_F I J B N e) : ∃ K, c_X12_jarLine_139_62 X (d + 3) v1 (nI n) v3 v4 J T = z_v K T ∧ l_F I K B N e := by
  obtain ⟨K, k1, k2⟩ := l_jl71 X d n hn h9 v1 v3 v4 _ T (l_F_w h h9 (12 + 13 * n + 2) 0)
  refine ⟨K, ?_, k2⟩
  rw [e_X12_jarLine_139_62]
  simp (disch := omega) only [e_X12_jarLine_139_70, k_X12_jarLine_139_70, k_X12_jarLine_139_71, l_has, l_aftE X (d + 1) _ _ _ J T (l_F_ne h), k1, q_bd_l, z_ltT, z_ltF, z_eqT, z_eqF, z_ltlT, z_ltlF, z_lltT, z_lltF, z_eqlT, z_eqlF, z_in, z_k7, z_cl, z_lneg, z_llT, z_llF, z_s1, z_nI_cl, z_nlt0, z_ne_m1, z_b0, z_b1, z_la, z_al, z_lm, z_ml, z_nm, nI_add, pk_mul, ↓reduceIte, not_true_eq_false, not_false_eq_true, true_or, or_true, false_or, or_false, true_and, and_true, and_false, false_and, Classical.not_not, Nat.add_zero, z_01, z_em, z_bit_p, Nat.not_le, Nat.not_lt, reduceCtorEq, if_true, if_false]
theorem l_jl57 {B : Nat → Nat} {N e : Nat} {I : Ii} (X : Sx) (d n : Nat) (hn : n < 10) (h9 : I 139 9 = -1) (v1 v3 v4 : Int32) (J : Ii) (T : Tt) (h : l_F I J B N e) : ∃ K, c_X12_jarLine_139_57 X (d + 3) v1 (nI n) v3 v4 J T = z_v K T ∧ l_F I K B N e := by
  obtain ⟨K, k1, k2⟩ := l_jl62 X d n hn h9 v1 v3 v4 _ T (l_F_w h h9 (12 + 13 * n + 1) v4)
  refine ⟨K, ?_, k2⟩
  rw [e_X12_jarLine_139_57]
  simp (disch := omega) only [k_X12_jarLine_139_62, l_has, k1, q_bd_l, z_ltT, z_ltF, z_eqT, z_eqF, z_ltlT, z_ltlF, z_lltT, z_lltF, z_eqlT, z_eqlF, z_in, z_k7, z_cl, z_lneg, z_llT, z_llF, z_s1, z_nI_cl, z_nlt0, z_ne_m1, z_b0, z_b1, z_la, z_al, z_lm, z_ml, z_nm, nI_add, pk_mul, ↓reduceIte, not_true_eq_false, not_false_eq_true, true_or, or_true, false_or, or_false, true_and, and_true, and_false, false_and, Classical.not_not, Nat.add_zero, z_01, z_em, z_bit_p, Nat.not_le, Nat.not_lt, reduceCtorEq, if_true, if_false]
theorem l_jl44 {B : Nat → Nat} {N e : Nat} {I : Ii} (X : Sx) (d n : Nat) (hn : n < 10) (h9 : I 139 9 = -1) (v1 v3 v4 : Int32) (J : Ii) (T : Tt) (h : l_F I J B N e) : ∃ K, c_X12_jarLine_139_44 X (d + 3) v1 (nI n) v3 v4 J T = z_v K T ∧ l_F I K B N e := by
  obtain ⟨K, k1, k2⟩ := l_jl57 X d n hn h9 v1 v3 v4 J T h
  refine ⟨K, ?_, k2⟩
  rw [e_X12_jarLine_139_44]
  simp (disch := omega) only [l_F_ne h, k1, q_bd_l, z_ltT, z_ltF, z_eqT, z_eqF, z_ltlT, z_ltlF, z_lltT, z_lltF, z_eqlT, z_eqlF, z_in, z_k7, z_cl, z_lneg, z_llT, z_llF, z_s1, z_nI_cl, z_nlt0, z_ne_m1, z_b0, z_b1, z_la, z_al, z_lm, z_ml, z_nm, nI_add, pk_mul, ↓reduceIte, not_true_eq_false, not_false_eq_true, true_or, or_true, false_or, or_false, true_and, and_true, and_false, false_and, Classical.not_not, Nat.add_zero, z_01, z_em, z_bit_p, Nat.not_le, Nat.not_lt, reduceCtorEq, if_true, if_false]
theorem l_jl37 {B : Nat → Nat} {N e : Nat} {I : Ii} (X : Sx) (d n : Nat) (hn : n < 10) (h9 : I 139 9 = -1) (v1 : Int32) (J : Ii) (T : Tt) (h : l_F I J B N e) : ∃ K, c_X12_jarLine_139_37 X (d + 3) v1 (nI n) J T = z_v K T ∧ l_F I K B N e := by
  obtain ⟨S, s1, s2, s3, s4⟩ := l_skipF X d T (by omega) J h.2.2.2.2 h.2.2.1
  have hS : l_F I S B N e := ⟨s2.trans h.1, h.2.1, s4, z_fr_t h.2.2.2.1 (z_pc_p s3), z_tx_fr h.2.2.2.2 s3⟩
  obtain ⟨K, k1, k2⟩ := l_jl44 X d n hn h9 v1 (S 139 11) 0 S T hS
  refine ⟨K, ?_, k2⟩
  rw [e_X12_jarLine_139_37]
  simp (disch := omega) only [e_X12_place_139, e_X12_place_139_2, k_X12_place_139_2, e_X12_jarLine_139_39, k_X12_jarLine_139_39, k_X12_jarLine_139_44, s1, l_figE X (d + 2) _ _ S T (l_F_ne hS), k1, q_bd_l, z_ltT, z_ltF, z_eqT, z_eqF, z_ltlT, z_ltlF, z_lltT, z_lltF, z_eqlT, z_eqlF, z_in, z_k7, z_cl, z_lneg, z_llT, z_llF, z_s1, z_nI_cl, z_nlt0, z_ne_m1, z_b0, z_b1, z_la, z_al, z_lm, z_ml, z_nm, nI_add, pk_mul, ↓reduceIte, not_true_eq_false, not_false_eq_true, true_or, or_true, false_or, or_false, true_and, and_true, and_false, false_and, Classical.not_not, Nat.add_zero, z_01, z_em, z_bit_p, Nat.not_le, Nat.not_lt, reduceCtorEq, if_true, if_false]
theorem l_jl25 {B : Nat → Nat} {N e : Nat} {I : Ii} (X : Sx) (d n : Nat) (hn : n < 10) (h9 : I 139 9 = -1) (v1 : Int32) (J : Ii) (T : Tt) (h : l_F I J B N e) : ∃ K, c_X12_jarLine_139_25 X (d + 3) v1 (nI n) J T = z_v K T ∧ l_F I K B N e := by
  obtain ⟨K, k1, k2⟩ := l_jl37 X d n hn h9 v1 J T h
  refine ⟨K, ?_, k2⟩
  rw [e_X12_jarLine_139_25]
  simp (disch := omega) only [l_F_ne h, k1, q_bd_l, z_ltT, z_ltF, z_eqT, z_eqF, z_ltlT, z_ltlF, z_lltT, z_lltF, z_eqlT, z_eqlF, z_in, z_k7, z_cl, z_lneg, z_llT, z_llF, z_s1, z_nI_cl, z_nlt0, z_ne_m1, z_b0, z_b1, z_la, z_al, z_lm, z_ml, z_nm, nI_add, pk_mul, ↓reduceIte, not_true_eq_false, not_false_eq_true, true_or, or_true, false_or, or_false, true_and, and_true, and_false, false_and, Classical.not_not, Nat.add_zero, z_01, z_em, z_bit_p, Nat.not_le, Nat.not_lt, reduceCtorEq, if_true, if_false]
