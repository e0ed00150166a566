/-! ===== THE REFERENCE READS THE CABINET: its lines ===== -/
theorem l_F_0 {I J : Ii} {B : Nat → Nat} {N e : Nat} (hx : z_tx I B N) (h1 : J 139 13 = nI e) (h2 : e ≤ N) (h3 : z_aw 6 J) (h4 : z_fr m_p I J) : l_F I J B N e := ⟨h1, h2, h3, z_pc_p h4, z_tx_fr hx h4⟩
theorem l_F_m {I J K : Ii} {B : Nat → Nat} {N e : Nat} (h : l_F J K B N e) (hf : z_fr m_pc I J) : l_F I K B N e := ⟨h.1, h.2.1, h.2.2.1, z_fr_t hf h.2.2.2.1, h.2.2.2.2⟩
/-- 'wrong' at the place -/
theorem l_F_wr {I : Ii} {B : Nat → Nat} {N r : Nat} (hx : z_tx I B N) (s : Nat) (hs : s ≤ N) (hr : r ≤ N) : l_F I (q_w (z_A I s) 139 13 (nI r)) B N r := l_F_0 hx (z_w_s _ _ _ _) hr (z_aw_A _ _ _ (by have := hx.1; omega) 6) (z_fr_w (z_A_fr I s) 139 13 _ rfl)
theorem l_liqW (X : Sx) (d : Nat) (I : Ii) (T : Tt) {B : Nat → Nat} {N : Nat} (h : z_tx I B N) (hf : I 139 13 = -1) (p : Nat) (hp : p ≤ N) : (c_lq B N (t_sk B N p) < 3 → ∃ q, q ≤ N ∧ t_sk B N q = t_nx B N (t_sk B N p) ∧ c_X12_liquidWord_139 X (d + 4) (z_A I p) T = z_r (nI (c_lq B N (t_sk B N p))) (z_A I q) T) ∧ (c_lq B N (t_sk B N p) = 3 → c_X12_liquidWord_139 X (d + 4) (z_A I p) T = z_r (-1) (q_w (z_A I (t_sk B N p)) 139 13 (nI (t_sk B N p))) T) := by
  have hs := t_sk_le (B := B) hp
  have hss := t_sk_sk B N p
  have W := fun i hi => l_wordN X d i hi I T h p hp
  have W1 := fun i hi => l_wordN X d i hi I T h (t_sk B N p) hs
  rw [hss] at W1
  have w45 := W 45 (by decide)
  have w46 := W1 46 (by decide)
  have w47 := W1 47 (by decide)
  generalize t_sk B N p = s at *
  have n1 := h.1
  have wr := l_wrong X (d + 2) (nI s) (z_A I s) T (by rw [z_A_k _ _ _ (by decide)]; exact hf)
  rw [e_X12_liquidWord_139]
  unfold c_lq
  by_cases c1 : t_isW (t_w 45) B N s = true
  · have hW := t_end_W (w := t_w 45) (by decide) c1
    refine ⟨fun _ => ⟨s + (t_w 45).length, hW.2, hW.1, ?_⟩, fun c => by rw [if_pos c1] at c; omega⟩
    rw [if_pos c1] at w45 ⊢
    simp (disch := omega) only [e_X12_liquidWord_139_3, k_X12_liquidWord_139_3, e_X12_liquidWord_139_9, k_X12_liquidWord_139_9, e_X12_liquidWord_139_15, k_X12_liquidWord_139_15, e_X12_liquidWord_139_19, e_X12_liquidWord_139_27, k_X12_liquidWord_139_27, w45, c1, q_bd_l, z_ltT, z_ltF, z_eqT, z_eqF, z_ltlT, z_ltlF, z_lltT, z_lltF, z_eqlT, z_eqlF, z_in, z_k7, z_cl, z_lneg, z_llT, z_llF, z_s1, z_nI_cl, z_nlt0, z_ne_m1, z_b0, z_b1, z_la, z_al, z_lm, z_ml, z_nm, nI_add, pk_mul, ↓reduceIte, not_true_eq_false, not_false_eq_true, true_or, or_true, false_or, or_false, true_and, and_true, and_false, false_and, Classical.not_not, Nat.add_zero, z_01, z_em, z_bit_p, Nat.not_le, Nat.not_lt, reduceCtorEq, if_true, if_false]
    rfl
  · rw [if_neg c1] at w45
    by_cases c2 : t_isW (t_w 46) B N s = true
    · have hW := t_end_W (w := t_w 46) (by decide) c2
      refine ⟨fun _ => ⟨s + (t_w 46).length, hW.2, hW.1, ?_⟩, fun c => by rw [if_neg c1, if_pos c2] at c; omega⟩
      rw [if_pos c2] at w46
      simp (disch := omega) only [e_X12_liquidWord_139_3, k_X12_liquidWord_139_3, e_X12_liquidWord_139_9, k_X12_liquidWord_139_9, e_X12_liquidWord_139_15, k_X12_liquidWord_139_15, e_X12_liquidWord_139_19, e_X12_liquidWord_139_27, k_X12_liquidWord_139_27, w45, c1, w46, c2, q_bd_l, z_ltT, z_ltF, z_eqT, z_eqF, z_ltlT, z_ltlF, z_lltT, z_lltF, z_eqlT, z_eqlF, z_in, z_k7, z_cl, z_lneg, z_llT, z_llF, z_s1, z_nI_cl, z_nlt0, z_ne_m1, z_b0, z_b1, z_la, z_al, z_lm, z_ml, z_nm, nI_add, pk_mul, ↓reduceIte, not_true_eq_false, not_false_eq_true, true_or, or_true, false_or, or_false, true_and, and_true, and_false, false_and, Classical.not_not, Nat.add_zero, z_01, z_em, z_bit_p, Nat.not_le, Nat.not_lt, reduceCtorEq, if_true, if_false]
      rfl
    · rw [if_neg c2] at w46
      by_cases c3 : t_isW (t_w 47) B N s = true
      · have hW := t_end_W (w := t_w 47) (by decide) c3
        refine ⟨fun _ => ⟨s + (t_w 47).length, hW.2, hW.1, ?_⟩, fun c => by rw [if_neg c1, if_neg c2, if_pos c3] at c; omega⟩
        rw [if_pos c3] at w47
        simp (disch := omega) only [e_X12_liquidWord_139_3, k_X12_liquidWord_139_3, e_X12_liquidWord_139_9, k_X12_liquidWord_139_9, e_X12_liquidWord_139_15, k_X12_liquidWord_139_15, e_X12_liquidWord_139_19, e_X12_liquidWord_139_27, k_X12_liquidWord_139_27, w45, c1, w46, c2, w47, c3, q_bd_l, z_ltT, z_ltF, z_eqT, z_eqF, z_ltlT, z_ltlF, z_lltT, z_lltF, z_eqlT, z_eqlF, z_in, z_k7, z_cl, z_lneg, z_llT, z_llF, z_s1, z_nI_cl, z_nlt0, z_ne_m1, z_b0, z_b1, z_la, z_al, z_lm, z_ml, z_nm, nI_add, pk_mul, ↓reduceIte, not_true_eq_false, not_false_eq_true, true_or, or_true, false_or, or_false, true_and, and_true, and_false, false_and, Classical.not_not, Nat.add_zero, z_01, z_em, z_bit_p, Nat.not_le, Nat.not_lt, reduceCtorEq, if_true, if_false]
        rfl
      · rw [if_neg c3] at w47
        refine ⟨fun c => by rw [if_neg c1, if_neg c2, if_neg c3] at c; omega, fun _ => ?_⟩
        simp (disch := omega) only [e_X12_liquidWord_139_3, k_X12_liquidWord_139_3, e_X12_liquidWord_139_9, k_X12_liquidWord_139_9, e_X12_liquidWord_139_15, k_X12_liquidWord_139_15, e_X12_liquidWord_139_19, e_X12_liquidWord_139_27, k_X12_liquidWord_139_27, w45, c1, w46, c2, w47, c3, z_A_11, wr, q_bd_l, z_ltT, z_ltF, z_eqT, z_eqF, z_ltlT, z_ltlF, z_lltT, z_lltF, z_eqlT, z_eqlF, z_in, z_k7, z_cl, z_lneg, z_llT, z_llF, z_s1, z_nI_cl, z_nlt0, z_ne_m1, z_b0, z_b1, z_la, z_al, z_lm, z_ml, z_nm, nI_add, pk_mul, ↓reduceIte, not_true_eq_false, not_false_eq_true, true_or, or_true, false_or, or_false, true_and, and_true, and_false, false_and, Classical.not_not, Nat.add_zero, z_01, z_em, z_bit_p, Nat.not_le, Nat.not_lt, reduceCtorEq, if_true, if_false]
theorem l_aft (X : Sx) (d : Nat) (I : Ii) (T : Tt) {B : Nat → Nat} {N i : Nat} {hi : Int32} (hi71 : i < 71) (hwl : 0 < (t_w i).length) (h : z_tx I B N) (hf : I 139 13 = -1) (hD : I 139 12 = nI 4) (p : Nat) (hp : p ≤ N) : (∀ a, C_aft B N i hi (t_sk B N p) = .ok a → ∃ q, q ≤ N ∧ t_sk B N q = t_nx B N a ∧ c_X12_after_139 X (d + 5) (OfNat.ofNat i : UInt32) 0 hi (z_A I p) T = z_r (c_nm B N a) (z_A I q) T) ∧ (∀ e, C_aft B N i hi (t_sk B N p) = .error e → ∃ v J, c_X12_after_139 X (d + 5) (OfNat.ofNat i : UInt32) 0 hi (z_A I p) T = z_r v J T ∧ l_F I J B N e) := by
  have hs := t_sk_le (B := B) hp
  have W := l_wordN X (d + 1) i hi71 I T h p hp
  have n1 := h.1
  rw [e_X12_after_139]
  unfold C_aft
  generalize hse : t_sk B N p = s at *
  have hss : t_sk B N s = s := by rw [← hse]; exact t_sk_sk B N p
  have hf' : z_A I p 139 13 = -1 := by rw [z_A_k _ _ _ (by decide)]; exact hf
  by_cases c1 : t_isW (t_w i) B N s = true
  · rw [if_pos c1]
    rw [if_pos c1] at W
    have hW := t_end_W hwl c1
    have F := l_fig X d 0 hi I T h hf 4 (by omega) hD (s + (t_w i).length) hW.2
    rw [hW.1] at F
    have hnl : t_nx B N s ≤ N := t_nx_le hs
    by_cases c2 : t_isN 0 hi 4 B N (t_nx B N s) = true
    · rw [if_pos c2]
      refine ⟨fun a ha => ?_, fun e he => by cases he⟩
      cases ha
      refine ⟨t_end B N (t_nx B N s), t_end_le hnl, rfl, ?_⟩
      have F1 := F.1 c2
      simp (disch := omega) only [e_X12_after_139_7, k_X12_after_139_7, e_X12_after_139_12, k_X12_after_139_12, e_X12_after_139_16, k_X12_after_139_16, hf', W, c1, F1, q_bd_l, z_ltT, z_ltF, z_eqT, z_eqF, z_ltlT, z_ltlF, z_lltT, z_lltF, z_eqlT, z_eqlF, z_in, z_k7, z_cl, z_lneg, z_llT, z_llF, z_s1, z_nI_cl, z_nlt0, z_ne_m1, z_b0, z_b1, z_la, z_al, z_lm, z_ml, z_nm, nI_add, pk_mul, ↓reduceIte, not_true_eq_false, not_false_eq_true, true_or, or_true, false_or, or_false, true_and, and_true, and_false, false_and, Classical.not_not, Nat.add_zero, z_01, z_em, z_bit_p, Nat.not_le, Nat.not_lt, reduceCtorEq, if_true, if_false]
      rfl
    · rw [if_neg c2]
      refine ⟨fun a ha => (by cases ha), fun e he => ?_⟩
      cases he
      obtain ⟨v, J, F1, F2, F3, F4⟩ := F.2 c2
      refine ⟨v, J, ?_, l_F_0 h F2 hnl (z_aw_m F3 (by omega)) F4⟩
      simp (disch := omega) only [e_X12_after_139_7, k_X12_after_139_7, e_X12_after_139_12, k_X12_after_139_12, e_X12_after_139_16, k_X12_after_139_16, hf', W, c1, F1, q_bd_l, z_ltT, z_ltF, z_eqT, z_eqF, z_ltlT, z_ltlF, z_lltT, z_lltF, z_eqlT, z_eqlF, z_in, z_k7, z_cl, z_lneg, z_llT, z_llF, z_s1, z_nI_cl, z_nlt0, z_ne_m1, z_b0, z_b1, z_la, z_al, z_lm, z_ml, z_nm, nI_add, pk_mul, ↓reduceIte, not_true_eq_false, not_false_eq_true, true_or, or_true, false_or, or_false, true_and, and_true, and_false, false_and, Classical.not_not, Nat.add_zero, z_01, z_em, z_bit_p, Nat.not_le, Nat.not_lt, reduceCtorEq, if_true, if_false]
  · rw [if_neg c1]
    rw [if_neg c1] at W
    refine ⟨fun a ha => (by cases ha), fun e he => ?_⟩
    cases he
    have wr := l_wrong X (d + 3) (nI s) (z_A I s) T (by rw [z_A_k _ _ _ (by decide)]; exact hf)
    have f := l_F_wr h s hs hs
    refine ⟨0, _, ?_, f⟩
    simp (disch := omega) only [e_X12_after_139_7, k_X12_after_139_7, e_X12_after_139_12, k_X12_after_139_12, e_X12_after_139_16, k_X12_after_139_16, hf', W, c1, z_A_11, wr, l_figE X (d + 3) 0 hi _ T (l_F_ne f), q_bd_l, z_ltT, z_ltF, z_eqT, z_eqF, z_ltlT, z_ltlF, z_lltT, z_lltF, z_eqlT, z_eqlF, z_in, z_k7, z_cl, z_lneg, z_llT, z_llF, z_s1, z_nI_cl, z_nlt0, z_ne_m1, z_b0, z_b1, z_la, z_al, z_lm, z_ml, z_nm, nI_add, pk_mul, ↓reduceIte, not_true_eq_false, not_false_eq_true, true_or, or_true, false_or, or_false, true_and, and_true, and_false, false_and, Classical.not_not, Nat.add_zero, z_01, z_em, z_bit_p, Nat.not_le, Nat.not_lt, reduceCtorEq, if_true, if_false]
theorem l_six21 (X : Sx) (d : Nat) (v : Int32) (I : Ii) (T : Tt) {B : Nat → Nat} {n : Nat} (h : z_tx I B n) : ∀ m k, k + m = n → c_X12_six_139_21 X (d + 1) v (z_A I k) T = c_X12_six_139_41 X (d + 1) v (z_A I (t_scan t_dig B n k)) T := by
  intro m
  induction m with
  | zero =>
    intro k hk
    have h2 := h.2.1
    have h1 := h.1
    have e : t_scan t_dig B n k = k := t_scan_end (by omega)
    rw [e_X12_six_139_21, e]
    simp (disch := omega) only [z_A_11, z_A_k, h2, q_bd_l, z_ltT, z_ltF, z_eqT, z_eqF, z_ltlT, z_ltlF, z_lltT, z_lltF, z_eqlT, z_eqlF, z_in, z_k7, z_cl, z_lneg, z_llT, z_llF, z_s1, z_nI_cl, z_nlt0, z_ne_m1, z_b0, z_b1, z_la, z_al, z_lm, z_ml, z_nm, nI_add, pk_mul, ↓reduceIte, not_true_eq_false, not_false_eq_true, true_or, or_true, false_or, or_false, true_and, and_true, and_false, false_and, Classical.not_not, Nat.add_zero, z_01, z_em, z_bit_p, Nat.not_le, Nat.not_lt, reduceCtorEq, if_true, if_false]
  | succ m ih =>
    intro k hk
    have h2 := h.2.1
    have h1 := h.1
    have h3 := h.2.2.1 k (by omega)
    rw [e_X12_six_139_21]
    by_cases hb : t_dig (B k) = true
    · have e : t_scan t_dig B n k = t_scan t_dig B n (k + 1) := t_scan_y (by omega) hb
      rw [t_dig_p] at hb
      simp (disch := omega) only [e_X12_six_139_30, k_X12_six_139_30, e_X12_six_139_33, k_X12_six_139_33, z_A_11, z_A_k, h2, l_letter X d (z_A I k) T (z_tx_A h k) k (by omega), l_isIn, z_A_w, q_bd_l, z_ltT, z_ltF, z_eqT, z_eqF, z_ltlT, z_ltlF, z_lltT, z_lltF, z_eqlT, z_eqlF, z_in, z_k7, z_cl, z_lneg, z_llT, z_llF, z_s1, z_nI_cl, z_nlt0, z_ne_m1, z_b0, z_b1, z_la, z_al, z_lm, z_ml, z_nm, nI_add, pk_mul, ↓reduceIte, not_true_eq_false, not_false_eq_true, true_or, or_true, false_or, or_false, true_and, and_true, and_false, false_and, Classical.not_not, Nat.add_zero, z_01, z_em, z_bit_p, Nat.not_le, Nat.not_lt, reduceCtorEq, if_true, if_false]
      rw [e]
      exact ih (k + 1) (by omega)
    · have e : t_scan t_dig B n k = k := t_scan_n (fun a => hb a.2)
      rw [t_dig_p] at hb
      rcases (by omega : B k < 48 ∨ 57 < B k) with h7 | h7
      · simp (disch := omega) only [e_X12_six_139_30, k_X12_six_139_30, e_X12_six_139_33, k_X12_six_139_33, z_A_11, z_A_k, h2, l_letter X d (z_A I k) T (z_tx_A h k) k (by omega), l_isIn, e, q_bd_l, z_ltT, z_ltF, z_eqT, z_eqF, z_ltlT, z_ltlF, z_lltT, z_lltF, z_eqlT, z_eqlF, z_in, z_k7, z_cl, z_lneg, z_llT, z_llF, z_s1, z_nI_cl, z_nlt0, z_ne_m1, z_b0, z_b1, z_la, z_al, z_lm, z_ml, z_nm, nI_add, pk_mul, ↓reduceIte, not_true_eq_false, not_false_eq_true, true_or, or_true, false_or, or_false, true_and, and_true, and_false, false_and, Classical.not_not, Nat.add_zero, z_01, z_em, z_bit_p, Nat.not_le, Nat.not_lt, reduceCtorEq, if_true, if_false]
      · simp (disch := omega) only [e_X12_six_139_30, k_X12_six_139_30, e_X12_six_139_33, k_X12_six_139_33, z_A_11, z_A_k, h2, l_letter X d (z_A I k) T (z_tx_A h k) k (by omega), l_isIn, e, q_bd_l, z_ltT, z_ltF, z_eqT, z_eqF, z_ltlT, z_ltlF, z_lltT, z_lltF, z_eqlT, z_eqlF, z_in, z_k7, z_cl, z_lneg, z_llT, z_llF, z_s1, z_nI_cl, z_nlt0, z_ne_m1, z_b0, z_b1, z_la, z_al, z_lm, z_ml, z_nm, nI_add, pk_mul, ↓reduceIte, not_true_eq_false, not_false_eq_true, true_or, or_true, false_or, or_false, true_and, and_true, and_false, false_and, Classical.not_not, Nat.add_zero, z_01, z_em, z_bit_p, Nat.not_le, Nat.not_lt, reduceCtorEq, if_true, if_false]
theorem l_six (X : Sx) (d : Nat) (I : Ii) (T : Tt) {B : Nat → Nat} {N : Nat} (h : z_tx I B N) (hf : I 139 13 = -1) (p : Nat) (hp : p ≤ N) : (t_isW (t_w 48) B N (t_sk B N p) = true → t_nf B N (t_nx B N (t_sk B N p)) = 6 → c_X12_six_139 X (d + 4) (z_A I p) T = z_r (nI (t_nx B N (t_sk B N p))) (z_A I (t_end B N (t_nx B N (t_sk B N p)))) T) ∧ (t_isW (t_w 48) B N (t_sk B N p) = true → ¬ t_nf B N (t_nx B N (t_sk B N p)) = 6 → ∃ v J, c_X12_six_139 X (d + 4) (z_A I p) T = z_r v J T ∧ l_F I J B N (t_nx B N (t_sk B N p))) ∧ (¬ t_isW (t_w 48) B N (t_sk B N p) = true → ∃ v J, c_X12_six_139 X (d + 4) (z_A I p) T = z_r v J T ∧ l_F I J B N (t_sk B N p)) := by
  have hs := t_sk_le (B := B) hp
  have W := l_wordN X d 48 (by decide) I T h p hp
  have n1 := h.1
  have hf' : ∀ p, z_A I p 139 13 = -1 := fun p => by rw [z_A_k _ _ _ (by decide)]; exact hf
  rw [e_X12_six_139]
  generalize hse : t_sk B N p = s at *
  by_cases c1 : t_isW (t_w 48) B N s = true
  · rw [if_pos c1] at W
    have hW := t_end_W (w := t_w 48) (by decide) c1
    have hnl : t_nx B N s ≤ N := t_nx_le hs
    have pl := l_place X d I T h (s + (t_w 48).length) hW.2
    rw [hW.1] at pl
    have go : (if z_A I p 139 13 = -1 then q_bd (c_X12_has__139 X (d + 3) (48 : UInt32) (z_A I p) T) (fun v9 h' => q_res X q_sb q_pg (d + 3) cd_X12_six 7 [some (.ref 139), none] (v9.toList ++ []) h') else c_X12_six_139_12 X (d + 3) (z_A I p) T) = c_X12_six_139_41 X (d + 3) (nI (t_nx B N s)) (z_A I (t_scan t_dig B N (t_nx B N s))) T := by
      have W' : c_X12_has__139 X (d + 3) (48 : UInt32) (z_A I p) T = _ := W
      simp (disch := omega) only [e_X12_six_139_7, k_X12_six_139_7, e_X12_six_139_12, e_X12_six_139_20, k_X12_six_139_20, hf', W', c1, pl, q_bd_l, z_ltT, z_ltF, z_eqT, z_eqF, z_ltlT, z_ltlF, z_lltT, z_lltF, z_eqlT, z_eqlF, z_in, z_k7, z_cl, z_lneg, z_llT, z_llF, z_s1, z_nI_cl, z_nlt0, z_ne_m1, z_b0, z_b1, z_la, z_al, z_lm, z_ml, z_nm, nI_add, pk_mul, ↓reduceIte, not_true_eq_false, not_false_eq_true, true_or, or_true, false_or, or_false, true_and, and_true, and_false, false_and, Classical.not_not, Nat.add_zero, z_01, z_em, z_bit_p, Nat.not_le, Nat.not_lt, reduceCtorEq, if_true, if_false]
      exact l_six21 X (d + 2) _ I T h (N - t_nx B N s) _ (by omega)
    have hg := t_scan_ge t_dig B N (t_nx B N s)
    have hl := t_scan_le t_dig B hnl
    have hnf : t_nf B N (t_nx B N s) = t_scan t_dig B N (t_nx B N s) - t_nx B N s := rfl
    have e3 : nI (t_scan t_dig B N (t_nx B N s)) - nI (t_nx B N s) = nI (t_scan t_dig B N (t_nx B N s) - t_nx B N s) := pk_sub hg
    rw [go]
    refine ⟨fun _ c2 => ?_, fun _ c2 => ?_, fun c => absurd c1 c⟩
    · have et : t_end B N (t_nx B N s) = t_scan t_dig B N (t_nx B N s) := by
        obtain ⟨u1, u2, -⟩ := t_scan_in (P := t_dig) (B := B) (n := N) (p := t_nx B N s) (q := t_nx B N s) (Nat.le_refl _) (by omega)
        unfold t_end
        rw [if_neg (by omega), if_neg (by rw [t_let_p]; rw [t_dig_p] at u2; omega), if_pos u2]
      rw [et, e_X12_six_139_41]
      rw [← hnf] at e3
      simp (disch := omega) only [e_X12_six_139_50, z_A_11, e3, c2, q_bd_l, z_ltT, z_ltF, z_eqT, z_eqF, z_ltlT, z_ltlF, z_lltT, z_lltF, z_eqlT, z_eqlF, z_in, z_k7, z_cl, z_lneg, z_llT, z_llF, z_s1, z_nI_cl, z_nlt0, z_ne_m1, z_b0, z_b1, z_la, z_al, z_lm, z_ml, z_nm, nI_add, pk_mul, ↓reduceIte, not_true_eq_false, not_false_eq_true, true_or, or_true, false_or, or_false, true_and, and_true, and_false, false_and, Classical.not_not, Nat.add_zero, z_01, z_em, z_bit_p, Nat.not_le, Nat.not_lt, reduceCtorEq, if_true, if_false]
    · have f := l_F_wr h (t_scan t_dig B N (t_nx B N s)) hl hnl
      have wr := l_wrong X (d + 2) (nI (t_nx B N s)) (z_A I (t_scan t_dig B N (t_nx B N s))) T (hf' _)
      refine ⟨nI (t_nx B N s), _, ?_, f⟩
      rw [e_X12_six_139_41]
      rw [← hnf] at e3
      simp (disch := omega) only [e_X12_six_139_50, k_X12_six_139_50, z_A_11, e3, wr, q_bd_l, z_ltT, z_ltF, z_eqT, z_eqF, z_ltlT, z_ltlF, z_lltT, z_lltF, z_eqlT, z_eqlF, z_in, z_k7, z_cl, z_lneg, z_llT, z_llF, z_s1, z_nI_cl, z_nlt0, z_ne_m1, z_b0, z_b1, z_la, z_al, z_lm, z_ml, z_nm, nI_add, pk_mul, ↓reduceIte, not_true_eq_false, not_false_eq_true, true_or, or_true, false_or, or_false, true_and, and_true, and_false, false_and, Classical.not_not, Nat.add_zero, z_01, z_em, z_bit_p, Nat.not_le, Nat.not_lt, reduceCtorEq, if_true, if_false]
  · rw [if_neg c1] at W
    refine ⟨fun c => absurd c c1, fun c => absurd c c1, fun _ => ?_⟩
    have f := l_F_wr h s hs hs
    have wr := l_wrong X (d + 2) (nI s) (z_A I s) T (hf' _)
    refine ⟨0, _, ?_, f⟩
    have W' : c_X12_has__139 X (d + 3) (48 : UInt32) (z_A I p) T = _ := W
    simp (disch := omega) only [e_X12_six_139_7, k_X12_six_139_7, e_X12_six_139_12, k_X12_six_139_12, hf', W', c1, z_A_11, wr, l_F_ne f, q_bd_l, z_ltT, z_ltF, z_eqT, z_eqF, z_ltlT, z_ltlF, z_lltT, z_lltF, z_eqlT, z_eqlF, z_in, z_k7, z_cl, z_lneg, z_llT, z_llF, z_s1, z_nI_cl, z_nlt0, z_ne_m1, z_b0, z_b1, z_la, z_al, z_lm, z_ml, z_nm, nI_add, pk_mul, ↓reduceIte, not_true_eq_false, not_false_eq_true, true_or, or_true, false_or, or_false, true_and, and_true, and_false, false_and, Classical.not_not, Nat.add_zero, z_01, z_em, z_bit_p, Nat.not_le, Nat.not_lt, reduceCtorEq, if_true, if_false]
