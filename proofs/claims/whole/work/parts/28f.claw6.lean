/-! ===== THE CLASS READS THE LAW: its text ===== -/
def k_Lo (I : Ii) (T : Tt) (B : Nat → Nat) (n : Nat) (Ls : List Ln) (S : List Int32) (r : Option (Except Nat (Nat × Ln))) (x : Rs) : Prop := (∀ q L, r = some (.ok (q, L)) → ∃ J, x = z_r 1 J T ∧ z_Rd J B n q ∧ k_Ls J (Ls ++ [L]) (S ++ L.2.2.1) ∧ (S ++ L.2.2.1).length ≤ q ∧ z_fr m_ll I J) ∧ (∀ e, r = some (.error e) → ∃ J, x = z_r 0 J T ∧ z_Rd J B n e ∧ z_fr m_ll I J)
/-- from 'if' on -/
theorem k_if (X : Sx) (d : Nat) (I0 I : Ii) (T : Tt) {Ls : List Ln} {S : List Int32} (k m f : Nat) {B : Nat → Nat} {n p q : Nat} (h : k_Ls I0 Ls S) (hf : z_fr m_ta I0 I) (hR : z_Rd I B n q) (hl : Ls.length < 12) (hS : S.length ≤ p) (hq : p + 3 ≤ q) : k_Lo I0 T B n Ls S (P_if B n f k m q) (c_X5_readLine_127_26 X (d + 25) (nI k) (nI m) I T) := by
  obtain ⟨-, k2, k3⟩ := k_w X (d + 23) 27 70 (by decide) (by decide +kernel) (by decide +kernel) I T hR
  have hSI := k_St_ta h.2.1 hf
  rw [e_X5_readLine_127_26]
  unfold P_if
  by_cases c : t_isW (t_w 70) B n q = true
  · rw [if_pos c]
    obtain ⟨A, a1, a2, a3⟩ := k2 c
    have a1' : c_X10_takeWord_1 X (d + 25) (27 : UInt32) I T = z_r 1 A T := a1
    have hnq : q ≤ t_nx B n q := by
      have hW := t_end_W (w := t_w 70) (by decide +kernel) c
      have hg := t_scan_ge t_blk B n (q + (t_w 70).length)
      rw [← hW.1]; unfold t_sk; omega
    have R := (K_all X T B n f).2.2.1 d 0 (t_nx B n q) S A (by omega) a3 (k_St_ta hSI a2) (by omega)
    have R' : k_P A T B n S (P_e B n f 2 0 (t_nx B n q)) (c_X5_readAny_127 X (d + 25) 0 A T) := R
    have st : q_bd (c_X10_takeWord_1 X (d + 25) 27 I T) (fun v h' => q_res X q_sb q_pg (d + 25) cd_X5_readLine 30 [some (.ref 127), some (.int (nI k)), some (.int (nI m))] (v.toList ++ []) h') = q_bd (c_X5_readAny_127 X (d + 25) 0 A T) (fun v h' => q_res X q_sb q_pg (d + 25) cd_X5_readLine 34 [some (.ref 127), some (.int (nI k)), some (.int (nI m))] (v.toList ++ []) h') := by
      simp (disch := omega) only [e_X5_readLine_127_30, k_X5_readLine_127_30, a1', q_bd_l, z_ltT, z_ltF, z_eqT, z_eqF, z_ltlT, z_ltlF, z_lltT, z_lltF, z_eqlT, z_eqlF, z_in, z_k7, z_cl, z_lneg, z_llT, z_llF, z_s1, z_nI_cl, z_nlt0, z_ne_m1, z_b0, z_b1, z_la, z_al, z_lm, z_ml, z_nm, nI_add, pk_mul, ↓reduceIte, not_true_eq_false, not_false_eq_true, true_or, or_true, false_or, or_false, true_and, and_true, and_false, false_and, Classical.not_not, Nat.add_zero, z_01, z_em, z_bit_p, Nat.not_le, Nat.not_lt, reduceCtorEq, if_true, if_false]
    rw [st]
    cases hr : P_e B n f 2 0 (t_nx B n q) with
    | none => exact ⟨fun _ _ h => (by cases h), fun _ h => (by cases h)⟩
    | some ra =>
      cases ra with
      | error e =>
        refine ⟨fun _ _ h => (by cases h), fun e' h => ?_⟩
        cases h
        obtain ⟨J, j1, j2, j3⟩ := R'.2 e hr
        refine ⟨J, ?_, j2, z_fr_t (z_ll_lr (z_lr_ta (z_fr_t hf a2))) (z_ll_lr j3)⟩
        rw [j1]
        simp (disch := omega) only [e_X5_readLine_127_34, k_X5_readLine_127_34, q_bd_l, z_ltT, z_ltF, z_eqT, z_eqF, z_ltlT, z_ltlF, z_lltT, z_lltF, z_eqlT, z_eqlF, z_in, z_k7, z_cl, z_lneg, z_llT, z_llF, z_s1, z_nI_cl, z_nlt0, z_ne_m1, z_b0, z_b1, z_la, z_al, z_lm, z_ml, z_nm, nI_add, pk_mul, ↓reduceIte, not_true_eq_false, not_false_eq_true, true_or, or_true, false_or, or_false, true_and, and_true, and_false, false_and, Classical.not_not, Nat.add_zero, z_01, z_em, z_bit_p, Nat.not_le, Nat.not_lt, reduceCtorEq, if_true, if_false]
      | ok a =>
        have w := (P_e_w B n f 0 _ a (by omega)).2.2.1 hr
        obtain ⟨J, j1, j2, j3, j4⟩ := R'.1 a hr
        have la : a.2.1.length ≤ a.1 - t_nx B n q + 1 := w.2.2.2.1
        have pa : t_nx B n q < a.1 := w.1
        have f0 : z_fr m_lr I0 J := z_fr_t (z_lr_ta (z_fr_t hf a2)) j4
        obtain ⟨K, k1, k2, k3, k4⟩ := k_addLine X (d + 24) I0 J T k m a.2.1 a.2.2 h f0 j3 hl j2
        refine ⟨fun q' L e => ?_, fun _ h => (by cases h)⟩
        cases e
        refine ⟨K, ?_, k3, k4, by show (S ++ a.2.1).length ≤ a.1; rw [List.length_append]; omega, z_fr_t (z_ll_lr f0) k2⟩
        rw [j1]
        simp (disch := omega) only [e_X5_readLine_127_34, k_X5_readLine_127_34, e_X5_readLine_127_37, e_X5_readLine_127_42, k_X5_readLine_127_42, k1, q_bd_l, z_ltT, z_ltF, z_eqT, z_eqF, z_ltlT, z_ltlF, z_lltT, z_lltF, z_eqlT, z_eqlF, z_in, z_k7, z_cl, z_lneg, z_llT, z_llF, z_s1, z_nI_cl, z_nlt0, z_ne_m1, z_b0, z_b1, z_la, z_al, z_lm, z_ml, z_nm, nI_add, pk_mul, ↓reduceIte, not_true_eq_false, not_false_eq_true, true_or, or_true, false_or, or_false, true_and, and_true, and_false, false_and, Classical.not_not, Nat.add_zero, z_01, z_em, z_bit_p, Nat.not_le, Nat.not_lt, reduceCtorEq, if_true, if_false]
  · rw [if_neg c]
    obtain ⟨A, a1, a2, a3⟩ := k3 c
    have a1' : c_X10_takeWord_1 X (d + 25) (27 : UInt32) I T = z_r 0 A T := a1
    have f0 : z_fr m_lr I0 A := z_lr_ta (z_fr_t hf a2)
    obtain ⟨K, k1, k2, k3, k4⟩ := k_addLine X (d + 24) I0 A T k m [] (fun _ => 1) h f0 (by rw [List.append_nil]; exact k_St_ta hSI a2) hl a3
    refine ⟨fun q' L e => ?_, fun _ h => (by cases h)⟩
    cases e
    refine ⟨K, ?_, k3, k4, by show (S ++ []).length ≤ q; rw [List.append_nil]; omega, z_fr_t (z_ll_lr f0) k2⟩
    simp (disch := omega) only [e_X5_readLine_127_30, k_X5_readLine_127_30, e_X5_readLine_127_37, e_X5_readLine_127_42, k_X5_readLine_127_42, a1', k1, q_bd_l, z_ltT, z_ltF, z_eqT, z_eqF, z_ltlT, z_ltlF, z_lltT, z_lltF, z_eqlT, z_eqlF, z_in, z_k7, z_cl, z_lneg, z_llT, z_llF, z_s1, z_nI_cl, z_nlt0, z_ne_m1, z_b0, z_b1, z_la, z_al, z_lm, z_ml, z_nm, nI_add, pk_mul, ↓reduceIte, not_true_eq_false, not_false_eq_true, true_or, or_true, false_or, or_false, true_and, and_true, and_false, false_and, Classical.not_not, Nat.add_zero, z_01, z_em, z_bit_p, Nat.not_le, Nat.not_lt, reduceCtorEq, if_true, if_false]
theorem k_lline (X : Sx) (d : Nat) (I : Ii) (T : Tt) {Ls : List Ln} {S : List Int32} (f : Nat) {B : Nat → Nat} {n p : Nat} (h : k_Ls I Ls S) (hR : z_Rd I B n p) (hl : Ls.length < 12) (hS : S.length ≤ p) : k_Lo I T B n Ls S (P_line B n f p) (c_X5_readLine_127 X (d + 26) I T) := by
  obtain ⟨A, a1, a2, a3, a4⟩ := k_kind X (d + 22) I T hR
  have hk : p_kind B n p ≤ 4 := by
    unfold p_kind
    repeat' split
    all_goals omega
  rw [e_X5_readLine_127, a1]
  unfold P_line
  by_cases c4 : p_kind B n p = 4
  · rw [if_pos c4] at a3
    rw [if_pos c4, if_pos c4]
    refine ⟨fun _ _ h => (by cases h), fun e' h => ?_⟩
    cases h
    refine ⟨A, ?_, a3, z_ll_lr (z_lr_ta a2)⟩
    simp (disch := omega) only [e_X5_readLine_127_2, k_X5_readLine_127_2, q_bd_l, z_ltT, z_ltF, z_eqT, z_eqF, z_ltlT, z_ltlF, z_lltT, z_lltF, z_eqlT, z_eqlF, z_in, z_k7, z_cl, z_lneg, z_llT, z_llF, z_s1, z_nI_cl, z_nlt0, z_ne_m1, z_b0, z_b1, z_la, z_al, z_lm, z_ml, z_nm, nI_add, pk_mul, ↓reduceIte, not_true_eq_false, not_false_eq_true, true_or, or_true, false_or, or_false, true_and, and_true, and_false, false_and, Classical.not_not, Nat.add_zero, z_01, z_em, z_bit_p, Nat.not_le, Nat.not_lt, reduceCtorEq, if_true, if_false]
  rw [if_neg c4] at a3
  rw [if_neg c4, if_neg c4]
  have a4 := a4 c4
  by_cases c3 : p_kind B n p = 3
  · rw [if_pos c3, c3]
    have R := k_if X d I A T 3 0 f (p := p) h a2 a3 hl hS a4
    have st : q_bd (z_r (nI 3) A T) (fun v h' => q_res X q_sb q_pg (d + 25) cd_X5_readLine 2 [some (.ref 127), none, none] (v.toList ++ []) h') = c_X5_readLine_127_26 X (d + 25) (nI 3) (nI 0) A T := by
      simp (disch := omega) only [e_X5_readLine_127_2, k_X5_readLine_127_2, q_bd_l, z_ltT, z_ltF, z_eqT, z_eqF, z_ltlT, z_ltlF, z_lltT, z_lltF, z_eqlT, z_eqlF, z_in, z_k7, z_cl, z_lneg, z_llT, z_llF, z_s1, z_nI_cl, z_nlt0, z_ne_m1, z_b0, z_b1, z_la, z_al, z_lm, z_ml, z_nm, nI_add, pk_mul, ↓reduceIte, not_true_eq_false, not_false_eq_true, true_or, or_true, false_or, or_false, true_and, and_true, and_false, false_and, Classical.not_not, Nat.add_zero, z_01, z_em, z_bit_p, Nat.not_le, Nat.not_lt, reduceCtorEq, if_true, if_false]
      rfl
    rw [st]
    exact R
  · rw [if_neg c3]
    generalize p_kind B n p = k at *
    obtain ⟨C, b1, b2, b3, b4⟩ := k_takeNumber X (d + 23) 0 99 3 (by omega) A T a3
    have b1' : c_X10_takeNumber_1 X (d + 25) 0 99 3 A T = _ := b1
    by_cases cN : t_isN 0 99 3 B n (t_nx B n p) = true
    · rw [if_pos cN]
      rw [z_b, if_pos cN] at b1'
      rw [if_pos cN] at b3 b4
      have hnn := t_isN_nx cN
      have R := k_if X d I C T k (t_num B (t_nx B n p) (t_nf B n (t_nx B n p))) f (p := p) h (z_fr_t a2 b2) b3 hl hS (by omega)
      have st : q_bd (z_r (nI k) A T) (fun v h' => q_res X q_sb q_pg (d + 25) cd_X5_readLine 2 [some (.ref 127), none, none] (v.toList ++ []) h') = c_X5_readLine_127_26 X (d + 25) (nI k) (nI (t_num B (t_nx B n p) (t_nf B n (t_nx B n p)))) C T := by
        simp (disch := omega) only [e_X5_readLine_127_2, k_X5_readLine_127_2, e_X5_readLine_127_19, k_X5_readLine_127_19, b1', b4, q_bd_l, z_ltT, z_ltF, z_eqT, z_eqF, z_ltlT, z_ltlF, z_lltT, z_lltF, z_eqlT, z_eqlF, z_in, z_k7, z_cl, z_lneg, z_llT, z_llF, z_s1, z_nI_cl, z_nlt0, z_ne_m1, z_b0, z_b1, z_la, z_al, z_lm, z_ml, z_nm, nI_add, pk_mul, ↓reduceIte, not_true_eq_false, not_false_eq_true, true_or, or_true, false_or, or_false, true_and, and_true, and_false, false_and, Classical.not_not, Nat.add_zero, z_01, z_em, z_bit_p, Nat.not_le, Nat.not_lt, reduceCtorEq, if_true, if_false]
      rw [st]
      exact R
    · rw [if_neg cN]
      rw [z_b, if_neg cN] at b1'
      rw [if_neg cN] at b3
      refine ⟨fun _ _ h => (by cases h), fun e' h => ?_⟩
      cases h
      refine ⟨C, ?_, b3, z_ll_lr (z_lr_ta (z_fr_t a2 b2))⟩
      simp (disch := omega) only [e_X5_readLine_127_2, k_X5_readLine_127_2, e_X5_readLine_127_19, k_X5_readLine_127_19, b1', q_bd_l, z_ltT, z_ltF, z_eqT, z_eqF, z_ltlT, z_ltlF, z_lltT, z_lltF, z_eqlT, z_eqlF, z_in, z_k7, z_cl, z_lneg, z_llT, z_llF, z_s1, z_nI_cl, z_nlt0, z_ne_m1, z_b0, z_b1, z_la, z_al, z_lm, z_ml, z_nm, nI_add, pk_mul, ↓reduceIte, not_true_eq_false, not_false_eq_true, true_or, or_true, false_or, or_false, true_and, and_true, and_false, false_and, Classical.not_not, Nat.add_zero, z_01, z_em, z_bit_p, Nat.not_le, Nat.not_lt, reduceCtorEq, if_true, if_false]
def k_Lt (I : Ii) (T : Tt) (n : Nat) (r : Option (Except Nat (List Ln))) (x : Rs) (Ls0 : List Ln) : Prop := (∀ Ls, r = some (.ok Ls) → ∃ J S, x = z_r 1 J T ∧ k_Ls J (Ls0 ++ Ls) S ∧ S.length ≤ n ∧ z_fr m_ll I J) ∧ (∀ e, r = some (.error e) → ∃ J, x = z_r 0 J T ∧ J 1 2 = nI e ∧ e ≤ n ∧ z_fr m_ll I J)
theorem k_lls (X : Sx) (d : Nat) (T : Tt) (f : Nat) {B : Nat → Nat} {n : Nat} : ∀ (g p : Nat) (Ls0 : List Ln) (S : List Int32) (I : Ii), g + Ls0.length = 12 → z_Rd I B n p → k_Ls I Ls0 S → S.length ≤ p → k_Lt I T n (P_ls B n f g p) (c_X5_readText_127_14 X (d + 26) (nI Ls0.length) I T) Ls0 := by
  intro g
  induction g with
  | zero =>
    intro p Ls0 S I hg h hL hS
    have hi : Ls0.length = 12 := by omega
    refine ⟨fun Ls e => (by cases e), fun e he => ?_⟩
    cases he
    refine ⟨I, ?_, h.2.2.1, h.2.1.1, z_fr_r _ _⟩
    rw [e_X5_readText_127_14, hi, if_neg (by decide)]
  | succ g ih =>
    intro p Ls0 S I hg h hL hS
    have e12 : nI Ls0.length < (12 : Int32) := nI_lt (b := 12) (by omega) (by omega)
    have L := k_lline X d I T f hL h (by omega) hS
    unfold P_ls
    rw [e_X5_readText_127_14, if_pos e12]
    cases hr : P_line B n f p with
    | none => exact ⟨fun _ h => (by cases h), fun _ h => (by cases h)⟩
    | some r1 =>
      cases r1 with
      | error e =>
        obtain ⟨J, x1, x2, x3⟩ := L.2 e hr
        refine ⟨fun _ h => (by cases h), fun e' he => ?_⟩
        cases he
        refine ⟨J, ?_, x2.2.2.1, x2.2.1.1, x3⟩
        rw [x1]
        simp (disch := omega) only [e_X5_readText_127_19, k_X5_readText_127_19, q_bd_l, z_ltT, z_ltF, z_eqT, z_eqF, z_ltlT, z_ltlF, z_lltT, z_lltF, z_eqlT, z_eqlF, z_in, z_k7, z_cl, z_lneg, z_llT, z_llF, z_s1, z_nI_cl, z_nlt0, z_ne_m1, z_b0, z_b1, z_la, z_al, z_lm, z_ml, z_nm, nI_add, pk_mul, ↓reduceIte, not_true_eq_false, not_false_eq_true, true_or, or_true, false_or, or_false, true_and, and_true, and_false, false_and, Classical.not_not, Nat.add_zero, z_01, z_em, z_bit_p, Nat.not_le, Nat.not_lt, reduceCtorEq, if_true, if_false]
      | ok a =>
        obtain ⟨q, L1⟩ := a
        obtain ⟨J, x1, x2, x3, x5, x4⟩ := L.1 q L1 hr
        have ae := k_isAtEnd X (d + 25) J T x2
        have hq := x2.2.1.1
        rw [x1]
        dsimp only
        by_cases c1 : q = n
        · rw [if_pos c1]
          refine ⟨fun Ls e => ?_, fun _ h => (by cases h)⟩
          cases e
          have c1' : n ≤ q := by omega
          refine ⟨J, S ++ L1.2.2.1, ?_, x3, by omega, x4⟩
          simp (disch := omega) only [e_X5_readText_127_19, k_X5_readText_127_19, e_X5_readText_127_25, k_X5_readText_127_25, ae, c1', q_bd_l, z_ltT, z_ltF, z_eqT, z_eqF, z_ltlT, z_ltlF, z_lltT, z_lltF, z_eqlT, z_eqlF, z_in, z_k7, z_cl, z_lneg, z_llT, z_llF, z_s1, z_nI_cl, z_nlt0, z_ne_m1, z_b0, z_b1, z_la, z_al, z_lm, z_ml, z_nm, nI_add, pk_mul, ↓reduceIte, not_true_eq_false, not_false_eq_true, true_or, or_true, false_or, or_false, true_and, and_true, and_false, false_and, Classical.not_not, Nat.add_zero, z_01, z_em, z_bit_p, Nat.not_le, Nat.not_lt, reduceCtorEq, if_true, if_false]
        · rw [if_neg c1]
          have c1' : ¬ n ≤ q := by omega
          obtain ⟨K, k1, k2, k3, -⟩ := k_takeSign X (d + 23) 59 (by decide) rfl rfl J T x2
          have k1' : c_X10_takeSign_1 X (d + 26) 59 J T = _ := k1
          by_cases c2 : t_isS 59 B n q = true
          · rw [if_pos c2]
            rw [z_b, if_pos c2] at k1'
            rw [if_pos c2] at k3
            have hs := t_isS_nx c2
            have hLK : k_Ls K (Ls0 ++ [L1]) (S ++ L1.2.2.1) := ⟨by rw [k2 48 0 rfl]; exact x3.1, k_St_ta x3.2.1 k2, x3.2.2.1, fun i hi => by rw [k2 49 i rfl, k2 50 i rfl, k2 51 i rfl]; exact x3.2.2.2.1 i hi, x3.2.2.2.2⟩
            have nx := ih (t_nx B n q) (Ls0 ++ [L1]) (S ++ L1.2.2.1) K (by rw [List.length_append]; show g + (Ls0.length + 1) = 12; omega) k3 hLK (by omega)
            have st : q_bd (z_r 1 J T) (fun v h' => q_res X q_sb q_pg (d + 26) cd_X5_readText 19 [some (.ref 127), some (.int (nI Ls0.length))] (v.toList ++ []) h') = c_X5_readText_127_14 X (d + 26) (nI (Ls0 ++ [L1]).length) K T := by
              rw [List.length_append]
              simp (disch := omega) only [e_X5_readText_127_19, k_X5_readText_127_19, e_X5_readText_127_25, k_X5_readText_127_25, e_X5_readText_127_32, k_X5_readText_127_32, ae, c1', k1', q_bd_l, z_ltT, z_ltF, z_eqT, z_eqF, z_ltlT, z_ltlF, z_lltT, z_lltF, z_eqlT, z_eqlF, z_in, z_k7, z_cl, z_lneg, z_llT, z_llF, z_s1, z_nI_cl, z_nlt0, z_ne_m1, z_b0, z_b1, z_la, z_al, z_lm, z_ml, z_nm, nI_add, pk_mul, ↓reduceIte, not_true_eq_false, not_false_eq_true, true_or, or_true, false_or, or_false, true_and, and_true, and_false, false_and, Classical.not_not, Nat.add_zero, z_01, z_em, z_bit_p, Nat.not_le, Nat.not_lt, reduceCtorEq, if_true, if_false]
              rfl
            rw [st]
            have fK := z_fr_t x4 (z_ll_lr (z_lr_ta k2))
            cases hr2 : P_ls B n f g (t_nx B n q) with
            | none => exact ⟨fun _ h => (by cases h), fun _ h => (by cases h)⟩
            | some r2 =>
              cases r2 with
              | error e =>
                refine ⟨fun _ h => (by cases h), fun e' he => ?_⟩
                cases he
                obtain ⟨M, y1, y2, y3, y4⟩ := nx.2 e hr2
                exact ⟨M, y1, y2, y3, z_fr_t fK y4⟩
              | ok Ls =>
                refine ⟨fun Ls' e => ?_, fun _ h => (by cases h)⟩
                cases e
                obtain ⟨M, S', y1, y2, y3, y4⟩ := nx.1 Ls hr2
                refine ⟨M, S', y1, ?_, y3, z_fr_t fK y4⟩
                rw [List.append_assoc] at y2
                exact y2
          · rw [if_neg c2]
            rw [z_b, if_neg c2] at k1'
            rw [if_neg c2] at k3
            refine ⟨fun _ h => (by cases h), fun e' he => ?_⟩
            cases he
            refine ⟨K, ?_, k3.2.2.1, hq, z_fr_t x4 (z_ll_lr (z_lr_ta k2))⟩
            simp (disch := omega) only [e_X5_readText_127_19, k_X5_readText_127_19, e_X5_readText_127_25, k_X5_readText_127_25, e_X5_readText_127_32, k_X5_readText_127_32, ae, c1', k1', q_bd_l, z_ltT, z_ltF, z_eqT, z_eqF, z_ltlT, z_ltlF, z_lltT, z_lltF, z_eqlT, z_eqlF, z_in, z_k7, z_cl, z_lneg, z_llT, z_llF, z_s1, z_nI_cl, z_nlt0, z_ne_m1, z_b0, z_b1, z_la, z_al, z_lm, z_ml, z_nm, nI_add, pk_mul, ↓reduceIte, not_true_eq_false, not_false_eq_true, true_or, or_true, false_or, or_false, true_and, and_true, and_false, false_and, Classical.not_not, Nat.add_zero, z_01, z_em, z_bit_p, Nat.not_le, Nat.not_lt, reduceCtorEq, if_true, if_false]
theorem k_ltext (X : Sx) (d : Nat) (I : Ii) (T : Tt) {B : Nat → Nat} {n : Nat} (h : z_Ta I B n) : k_Lt I T n (P_law B n) (c_X5_readText_127 X (d + 27) I T) [] := by
  have cl : c_X4_clear_48 X (d + 26) I T = z_v (q_w (q_w I 48 0 0) 48 5 0) T := e_X4_clear_48 X (d + 25) I T
  have hT : z_Ta (q_w (q_w I 48 0 0) 48 5 0) B n := ⟨h.1, by rw [z_w_a _ _ _ _ _ (by decide), z_w_a _ _ _ _ _ (by decide)]; exact h.2.1, fun k hk => by rw [z_w_a _ _ _ _ _ (by decide), z_w_a _ _ _ _ _ (by decide)]; exact h.2.2 k hk⟩
  obtain ⟨A, a1, a2, a3⟩ := k_start X (d + 24) _ T hT
  have ae := k_isAtEnd X (d + 25) A T a3
  have hL : k_Ls A [] [] := ⟨by rw [a2 48 0 rfl, z_w_k _ _ _ _ _ (by decide), z_w_s]; rfl, ⟨by rw [a2 48 5 rfl, z_w_s]; rfl, fun t ht => absurd ht (Nat.not_lt_zero _)⟩, rfl, fun i hi => absurd hi (Nat.not_lt_zero _), fun i hi => absurd hi (Nat.not_lt_zero _)⟩
  have fA : z_fr m_ll I A := z_fr_t (z_fr_w (z_fr_w (z_fr_r _ _) 48 0 _ rfl) 48 5 _ rfl) (z_ll_lr (z_lr_ta a2))
  have R := k_lls X d T (p_fuel n) 12 (t_sk B n 0) [] [] A rfl a3 hL (Nat.zero_le _)
  have hs := a3.2.1.1
  rw [e_X5_readText_127, cl]
  unfold P_law
  by_cases c : t_sk B n 0 = n
  · rw [if_pos c]
    have c' : n ≤ t_sk B n 0 := by omega
    refine ⟨fun Ls e => ?_, fun _ h => (by cases h)⟩
    cases e
    refine ⟨A, [], ?_, hL, Nat.zero_le _, fA⟩
    simp (disch := omega) only [e_X5_readText_127_3, k_X5_readText_127_3, e_X5_readText_127_6, k_X5_readText_127_6, e_X5_readText_127_9, k_X5_readText_127_9, a1, ae, c', q_bd_l, z_ltT, z_ltF, z_eqT, z_eqF, z_ltlT, z_ltlF, z_lltT, z_lltF, z_eqlT, z_eqlF, z_in, z_k7, z_cl, z_lneg, z_llT, z_llF, z_s1, z_nI_cl, z_nlt0, z_ne_m1, z_b0, z_b1, z_la, z_al, z_lm, z_ml, z_nm, nI_add, pk_mul, ↓reduceIte, not_true_eq_false, not_false_eq_true, true_or, or_true, false_or, or_false, true_and, and_true, and_false, false_and, Classical.not_not, Nat.add_zero, z_01, z_em, z_bit_p, Nat.not_le, Nat.not_lt, reduceCtorEq, if_true, if_false]
  · rw [if_neg c]
    have c' : ¬ n ≤ t_sk B n 0 := by omega
    have st : q_bd (z_v (q_w (q_w I 48 0 0) 48 5 0) T) (fun v h' => q_res X q_sb q_pg (d + 26) cd_X5_readText 3 [some (.ref 127), none] (v.toList ++ []) h') = c_X5_readText_127_14 X (d + 26) (nI ([] : List Ln).length) A T := by
      simp (disch := omega) only [e_X5_readText_127_3, k_X5_readText_127_3, e_X5_readText_127_6, k_X5_readText_127_6, e_X5_readText_127_9, k_X5_readText_127_9, a1, ae, c', q_bd_l, z_ltT, z_ltF, z_eqT, z_eqF, z_ltlT, z_ltlF, z_lltT, z_lltF, z_eqlT, z_eqlF, z_in, z_k7, z_cl, z_lneg, z_llT, z_llF, z_s1, z_nI_cl, z_nlt0, z_ne_m1, z_b0, z_b1, z_la, z_al, z_lm, z_ml, z_nm, nI_add, pk_mul, ↓reduceIte, not_true_eq_false, not_false_eq_true, true_or, or_true, false_or, or_false, true_and, and_true, and_false, false_and, Classical.not_not, Nat.add_zero, z_01, z_em, z_bit_p, Nat.not_le, Nat.not_lt, reduceCtorEq, if_true, if_false]
      rfl
    rw [st]
    refine ⟨fun Ls e => ?_, fun e he => ?_⟩
    · obtain ⟨J, S, y1, y2, y3, y4⟩ := R.1 Ls e
      exact ⟨J, S, y1, y2, y3, z_fr_t fA y4⟩
    · obtain ⟨J, y1, y2, y3, y4⟩ := R.2 e he
      exact ⟨J, y1, y2, y3, z_fr_t fA y4⟩
