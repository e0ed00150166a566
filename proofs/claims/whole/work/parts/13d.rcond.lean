/-! ===== THE REFERENCE READS: SUMS and conditions ===== -/
theorem p_bd_o (a : Pv) (k : Pv → Pr) : p_bd (some (.ok a)) k = k a := rfl
theorem p_bd_e (e : Nat) (k : Pv → Pr) : p_bd (some (.error e)) k = some (.error e) := rfl
theorem p_bd_n (k : Pv → Pr) : p_bd none k = none := rfl
/-- as z_po, what is answered made by g of the value -/
def z_pg (B : Nat → Nat) (n : Nat) (I : Ii) (T : Tt) (b : Nat) (W : Int32 → Prop) (g : Int32 → Int32) (r : Pr) (x : Rs) : Prop :=
  (∀ a, r = some (.ok a) → ∃ q, q ≤ n ∧ t_sk B n q = a.1 ∧ x = z_r (g (a.2.2 (z_fc I))) (z_A I q) T) ∧ (∀ e, r = some (.error e) → ∃ v J, x = z_r v J T ∧ W v ∧ J 139 13 = nI e ∧ (e ≤ n ∧ z_aw b J) ∧ z_fr m_p I J)
theorem z_pg_ok {B : Nat → Nat} {n : Nat} {I : Ii} {T : Tt} {b : Nat} {W : Int32 → Prop} {g : Int32 → Int32} {x : Rs} {a1 : Nat} {s : List Int32} {f : Fc → Int32} (q : Nat) (h1 : q ≤ n) (h2 : t_sk B n q = a1) (h3 : x = z_r (g (f (z_fc I))) (z_A I q) T) : z_pg B n I T b W g (p_ok a1 s f) x :=
  ⟨fun a e => by cases e; exact ⟨q, h1, h2, h3⟩, fun e h => by cases h⟩
theorem z_pg_er {B : Nat → Nat} {n : Nat} {I : Ii} {T : Tt} {b : Nat} {W : Int32 → Prop} {g : Int32 → Int32} {x : Rs} {e : Nat} (v : Int32) (J : Ii) (h : x = z_r v J T) (hv : W v) (hJ : J 139 13 = nI e) (he : e ≤ n ∧ z_aw b J) (hf : z_fr m_p I J) : z_pg B n I T b W g (p_er e) x :=
  ⟨fun a h => (by cases h), fun e' h' => by cases h'; exact ⟨v, J, h, hv, hJ, he, hf⟩⟩
theorem z_pg_no {B : Nat → Nat} {n : Nat} {I : Ii} {T : Tt} {b : Nat} {W : Int32 → Prop} {g : Int32 → Int32} {x : Rs} : z_pg B n I T b W g none x := ⟨fun a h => (by cases h), fun e h => (by cases h)⟩
theorem z_po_no {B : Nat → Nat} {n : Nat} {I : Ii} {T : Tt} {b : Nat} {W : Int32 → Prop} {x : Rs} : z_po B n I T b W none x := ⟨fun a h => (by cases h), fun e h => (by cases h)⟩
theorem t_end_S {c : Nat} {B : Nat → Nat} {n p : Nat} (h : t_isS c B n p = true) (hl : t_let c = false) (hd : t_dig c = false) : t_end B n p = p + 1 := by
  rw [t_isS_p] at h
  unfold t_end
  rw [if_neg (by omega), h.2, hl, hd]
  rfl
theorem t_end_W {w : List Int32} (hw : 0 < w.length) {B : Nat → Nat} {n p : Nat} (h : t_isW w B n p = true) : t_sk B n (p + w.length) = t_nx B n p ∧ p + w.length ≤ n := by
  obtain ⟨h1, -, h3⟩ := t_isW_lt hw h
  rw [← h3]
  exact ⟨rfl, t_end_le (Nat.le_of_lt h1)⟩
theorem l_sum3 (X : Sx) (d : Nat) (I : Ii) (T : Tt) {B : Nat → Nat} {n : Nat} (h : z_tx I B n) (hf : I 139 13 = -1) (hD : I 139 12 = nI 3) : ∀ f q v, q ≤ n → z_pg B n I T 0 (fun _ => True) (fun y => v + y) (P_sumT B n f (t_sk B n q)) (c_X12_sum_139_3 X (d + 5) v (z_A I q) T) := by
  intro f
  induction f with
  | zero => intro q v hq; exact z_pg_no
  | succ f ih =>
    intro q v hq
    have hs := t_sk_le (B := B) hq
    have sg := l_isSign X (d + 2) I T h q hq 43 (by decide)
    rw [e_X12_sum_139_3]
    unfold P_sumT
    generalize es : t_sk B n q = s at *
    by_cases hS : t_isS 43 B n s = true
    · rw [if_pos hS]
      have hn := t_isS_nx hS
      have e1 : t_sk B n (s + 1) = t_nx B n s := by rw [← t_end_S hS rfl rfl]; rfl
      have pt := l_part X d I T h hf hD (s + 1) (by omega)
      rw [e1] at pt
      cases hr : P_part B n (t_nx B n s) with
      | none => rw [p_bd_n]; exact z_pg_no
      | some r =>
        rw [hr] at pt
        cases r with
        | error e =>
          rw [p_bd_e]
          obtain ⟨v2, J, x1, -, x2, x3, x4⟩ := pt.2 e rfl
          have h1 := h.1
          have x31 := x3.1
          refine z_pg_er (v + v2) J ?_ trivial x2 x3 x4
          simp (disch := omega) only [e_X12_sum_139, e_X12_sum_139_2, k_X12_sum_139_2, e_X12_sum_139_10, k_X12_sum_139_10, e_X12_sum_139_20, k_X12_sum_139_20, e_X12_sum_139_23, z_A_11, z_A_k, hf, sg, hS, z_A_w, x1, q_bd_l, z_ltT, z_ltF, z_eqT, z_eqF, z_ltlT, z_ltlF, z_lltT, z_lltF, z_eqlT, z_eqlF, z_in, z_k7, z_cl, z_lneg, z_llT, z_llF, z_s1, z_nI_cl, z_nlt0, z_ne_m1, z_b0, z_b1, z_la, z_al, z_lm, z_ml, z_nm, nI_add, pk_mul, ↓reduceIte, not_true_eq_false, not_false_eq_true, true_or, or_true, false_or, or_false, true_and, and_true, and_false, false_and, Classical.not_not, Nat.add_zero, z_01, z_em, z_bit_p, Nat.not_le, Nat.not_lt, reduceCtorEq, if_true, if_false]
          rw [e_X12_sum_139_3]
          simp (disch := omega) only [e_X12_sum_139, e_X12_sum_139_2, k_X12_sum_139_2, e_X12_sum_139_10, k_X12_sum_139_10, e_X12_sum_139_20, k_X12_sum_139_20, e_X12_sum_139_23, x2, q_bd_l, z_ltT, z_ltF, z_eqT, z_eqF, z_ltlT, z_ltlF, z_lltT, z_lltF, z_eqlT, z_eqlF, z_in, z_k7, z_cl, z_lneg, z_llT, z_llF, z_s1, z_nI_cl, z_nlt0, z_ne_m1, z_b0, z_b1, z_la, z_al, z_lm, z_ml, z_nm, nI_add, pk_mul, ↓reduceIte, not_true_eq_false, not_false_eq_true, true_or, or_true, false_or, or_false, true_and, and_true, and_false, false_and, Classical.not_not, Nat.add_zero, z_01, z_em, z_bit_p, Nat.not_le, Nat.not_lt, reduceCtorEq, if_true, if_false]
        | ok a =>
          rw [p_bd_o]
          obtain ⟨q1, y1, y2, y3⟩ := pt.1 a rfl
          have nx := ih q1 (v + a.2.2 (z_fc I)) y1
          rw [y2] at nx
          have go : (if z_A I q 139 13 = -1 then q_bd (c_X12_isSign_139 X (d + 5) 43 (z_A I q) T) (fun v9 h' => q_res X q_sb q_pg (d + 5) cd_X12_sum 10 [some (.ref 139), some (.int v)] (v9.toList ++ []) h') else c_X12_sum_139_23 X (d + 5) v (z_A I q) T) = c_X12_sum_139_3 X (d + 5) (v + a.2.2 (z_fc I)) (z_A I q1) T := by
            simp (disch := omega) only [e_X12_sum_139, e_X12_sum_139_2, k_X12_sum_139_2, e_X12_sum_139_10, k_X12_sum_139_10, e_X12_sum_139_20, k_X12_sum_139_20, e_X12_sum_139_23, z_A_11, z_A_k, hf, sg, hS, z_A_w, y3, q_bd_l, z_ltT, z_ltF, z_eqT, z_eqF, z_ltlT, z_ltlF, z_lltT, z_lltF, z_eqlT, z_eqlF, z_in, z_k7, z_cl, z_lneg, z_llT, z_llF, z_s1, z_nI_cl, z_nlt0, z_ne_m1, z_b0, z_b1, z_la, z_al, z_lm, z_ml, z_nm, nI_add, pk_mul, ↓reduceIte, not_true_eq_false, not_false_eq_true, true_or, or_true, false_or, or_false, true_and, and_true, and_false, false_and, Classical.not_not, Nat.add_zero, z_01, z_em, z_bit_p, Nat.not_le, Nat.not_lt, reduceCtorEq, if_true, if_false]
          rw [go]
          cases hr2 : P_sumT B n f a.1 with
          | none => rw [p_bd_n]; exact z_pg_no
          | some r2 =>
            rw [hr2] at nx
            cases r2 with
            | error e =>
              rw [p_bd_e]
              obtain ⟨v2, J, x1, -, x2, x3, x4⟩ := nx.2 e rfl
              exact z_pg_er v2 J x1 trivial x2 x3 x4
            | ok b =>
              rw [p_bd_o]
              obtain ⟨q2, w1, w2, w3⟩ := nx.1 b rfl
              refine z_pg_ok q2 w1 w2 ?_
              rw [w3]
              exact congrArg (fun y => z_r y (z_A I q2) T) (Int32.add_assoc _ _ _)
    · rw [if_neg hS]
      refine z_pg_ok s hs (by rw [← es]; exact t_sk_sk B n q) ?_
      simp (disch := omega) only [e_X12_sum_139, e_X12_sum_139_2, k_X12_sum_139_2, e_X12_sum_139_10, k_X12_sum_139_10, e_X12_sum_139_20, k_X12_sum_139_20, e_X12_sum_139_23, z_A_11, z_A_k, hf, sg, hS, Int32.add_zero, q_bd_l, z_ltT, z_ltF, z_eqT, z_eqF, z_ltlT, z_ltlF, z_lltT, z_lltF, z_eqlT, z_eqlF, z_in, z_k7, z_cl, z_lneg, z_llT, z_llF, z_s1, z_nI_cl, z_nlt0, z_ne_m1, z_b0, z_b1, z_la, z_al, z_lm, z_ml, z_nm, nI_add, pk_mul, ↓reduceIte, not_true_eq_false, not_false_eq_true, true_or, or_true, false_or, or_false, true_and, and_true, and_false, false_and, Classical.not_not, Nat.add_zero, z_01, z_em, z_bit_p, Nat.not_le, Nat.not_lt, reduceCtorEq, if_true, if_false]
theorem l_Sm (X : Sx) (d : Nat) (I : Ii) (T : Tt) {B : Nat → Nat} {n : Nat} (h : z_tx I B n) (hf : I 139 13 = -1) (hD : I 139 12 = nI 3) (f p : Nat) (hp : p ≤ n) : z_po B n I T 0 (fun _ => True) (P_sum B n f (t_sk B n p)) (c_X12_sum_139 X (d + 6) (z_A I p) T) := by
  have pt := l_part X d I T h hf hD p hp
  rw [e_X12_sum_139]
  unfold P_sum
  cases hr : P_part B n (t_sk B n p) with
  | none => rw [p_bd_n]; exact z_po_no
  | some r =>
    rw [hr] at pt
    cases r with
    | error e =>
      rw [p_bd_e]
      obtain ⟨v2, J, x1, -, x2, x3, x4⟩ := pt.2 e rfl
      have h1 := h.1
      have x31 := x3.1
      refine z_po_er v2 J ?_ trivial x2 x3 x4
      simp (disch := omega) only [e_X12_sum_139, e_X12_sum_139_2, k_X12_sum_139_2, e_X12_sum_139_10, k_X12_sum_139_10, e_X12_sum_139_20, k_X12_sum_139_20, e_X12_sum_139_23, x1, q_bd_l, z_ltT, z_ltF, z_eqT, z_eqF, z_ltlT, z_ltlF, z_lltT, z_lltF, z_eqlT, z_eqlF, z_in, z_k7, z_cl, z_lneg, z_llT, z_llF, z_s1, z_nI_cl, z_nlt0, z_ne_m1, z_b0, z_b1, z_la, z_al, z_lm, z_ml, z_nm, nI_add, pk_mul, ↓reduceIte, not_true_eq_false, not_false_eq_true, true_or, or_true, false_or, or_false, true_and, and_true, and_false, false_and, Classical.not_not, Nat.add_zero, z_01, z_em, z_bit_p, Nat.not_le, Nat.not_lt, reduceCtorEq, if_true, if_false]
      rw [e_X12_sum_139_3]
      simp (disch := omega) only [e_X12_sum_139, e_X12_sum_139_2, k_X12_sum_139_2, e_X12_sum_139_10, k_X12_sum_139_10, e_X12_sum_139_20, k_X12_sum_139_20, e_X12_sum_139_23, x2, q_bd_l, z_ltT, z_ltF, z_eqT, z_eqF, z_ltlT, z_ltlF, z_lltT, z_lltF, z_eqlT, z_eqlF, z_in, z_k7, z_cl, z_lneg, z_llT, z_llF, z_s1, z_nI_cl, z_nlt0, z_ne_m1, z_b0, z_b1, z_la, z_al, z_lm, z_ml, z_nm, nI_add, pk_mul, ↓reduceIte, not_true_eq_false, not_false_eq_true, true_or, or_true, false_or, or_false, true_and, and_true, and_false, false_and, Classical.not_not, Nat.add_zero, z_01, z_em, z_bit_p, Nat.not_le, Nat.not_lt, reduceCtorEq, if_true, if_false]
    | ok a =>
      rw [p_bd_o]
      obtain ⟨q1, y1, y2, y3⟩ := pt.1 a rfl
      have nx := l_sum3 X d I T h hf hD f q1 (a.2.2 (z_fc I)) y1
      rw [y2] at nx
      have go : q_bd (c_X12_part_139 X (d + 5) (z_A I p) T) (fun v9 h' => q_res X q_sb q_pg (d + 5) cd_X12_sum 2 [some (.ref 139), none] (v9.toList ++ []) h') = c_X12_sum_139_3 X (d + 5) (a.2.2 (z_fc I)) (z_A I q1) T := by
        simp (disch := omega) only [e_X12_sum_139, e_X12_sum_139_2, k_X12_sum_139_2, e_X12_sum_139_10, k_X12_sum_139_10, e_X12_sum_139_20, k_X12_sum_139_20, e_X12_sum_139_23, y3, q_bd_l, z_ltT, z_ltF, z_eqT, z_eqF, z_ltlT, z_ltlF, z_lltT, z_lltF, z_eqlT, z_eqlF, z_in, z_k7, z_cl, z_lneg, z_llT, z_llF, z_s1, z_nI_cl, z_nlt0, z_ne_m1, z_b0, z_b1, z_la, z_al, z_lm, z_ml, z_nm, nI_add, pk_mul, ↓reduceIte, not_true_eq_false, not_false_eq_true, true_or, or_true, false_or, or_false, true_and, and_true, and_false, false_and, Classical.not_not, Nat.add_zero, z_01, z_em, z_bit_p, Nat.not_le, Nat.not_lt, reduceCtorEq, if_true, if_false]
      rw [go]
      cases hr2 : P_sumT B n f a.1 with
      | none => rw [p_bd_n]; exact z_po_no
      | some r2 =>
        rw [hr2] at nx
        cases r2 with
        | error e =>
          rw [p_bd_e]
          obtain ⟨v2, J, x1, -, x2, x3, x4⟩ := nx.2 e rfl
          exact z_po_er v2 J x1 trivial x2 x3 x4
        | ok b =>
          rw [p_bd_o]
          obtain ⟨q2, w1, w2, w3⟩ := nx.1 b rfl
          exact z_po_ok q2 w1 w2 w3
def z_01b (v : Int32) : Prop := v = 0 ∨ v = 1
theorem l_plain (X : Sx) (d : Nat) (I : Ii) (T : Tt) {B : Nat → Nat} {n : Nat} (h : z_tx I B n) (hf : I 139 13 = -1) (hD : I 139 12 = nI 3) (ho : z_01b (I 139 17)) (f p : Nat) (hp : p ≤ n) : z_po B n I T 0 z_01b (P_plain B n f (t_sk B n p)) (c_X12_plain_139 X (d + 7) (z_A I p) T) := by
  have hs := t_sk_le (B := B) hp
  have hss := t_sk_sk B n p
  have h1 := h.1
  have W0 := l_word X (d + 3) 45 (by decide) I T h p hp
  have sm := fun (hp2 : t_sk B n p ≤ n) => l_Sm X d I T h hf hD f (t_sk B n p) hp2
  rw [e_X12_plain_139]
  unfold P_plain
  generalize es : t_sk B n p = s at *
  have W := fun (d i : Nat) (hi : OfNat.ofNat i < 71) => l_word X d i hi I T h s hs
  rw [hss] at W
  have leaf : ∀ (i : Nat) (s' : List Int32) (g : Fc → Int32) (x : Rs), i < 71 → t_isW (t_w i) B n s = true → x = z_r (g (z_fc I)) (z_A I (s + (t_w i).length)) T → z_po B n I T 0 z_01b (p_ok (t_nx B n s) s' g) x := by
    intro i s' g x hi hw hx
    have hl : 0 < (t_w i).length := (by decide : ∀ i, i < 71 → 0 < (t_w i).length) i hi
    exact z_po_ok _ (t_end_W hl hw).2 (t_end_W hl hw).1 hx
  by_cases hw0 : t_isW (t_w 45) B n s = true
  · rw [if_pos hw0]
    refine leaf 45 _ _ _ (by omega) hw0 ?_
    unfold z_b
    by_cases hl : I 139 16 = 0 <;> simp (disch := omega) only [e_X12_plain_139, e_X12_plain_139_3, k_X12_plain_139_3, e_X12_plain_139_14, k_X12_plain_139_14, e_X12_plain_139_26, k_X12_plain_139_26, e_X12_plain_139_38, k_X12_plain_139_38, e_X12_plain_139_44, k_X12_plain_139_44, e_X12_plain_139_54, k_X12_plain_139_54, e_X12_plain_139_60, k_X12_plain_139_60, e_X12_plain_139_65, k_X12_plain_139_65, e_X12_plain_139_67, e_X12_plain_139_75, k_X12_plain_139_75, W0, hw0, z_A_k, z_fc, hl, q_bd_l, z_ltT, z_ltF, z_eqT, z_eqF, z_ltlT, z_ltlF, z_lltT, z_lltF, z_eqlT, z_eqlF, z_in, z_k7, z_cl, z_lneg, z_llT, z_llF, z_s1, z_nI_cl, z_nlt0, z_ne_m1, z_b0, z_b1, z_la, z_al, z_lm, z_ml, z_nm, nI_add, pk_mul, ↓reduceIte, not_true_eq_false, not_false_eq_true, true_or, or_true, false_or, or_false, true_and, and_true, and_false, false_and, Classical.not_not, Nat.add_zero, z_01, z_em, z_bit_p, Nat.not_le, Nat.not_lt, reduceCtorEq, if_true, if_false]
  rw [if_neg hw0]
  by_cases hw1 : t_isW (t_w 46) B n s = true
  · rw [if_pos hw1]
    refine leaf 46 _ _ _ (by omega) hw1 ?_
    unfold z_b
    by_cases hl : I 139 16 = 1 <;> simp (disch := omega) only [e_X12_plain_139, e_X12_plain_139_3, k_X12_plain_139_3, e_X12_plain_139_14, k_X12_plain_139_14, e_X12_plain_139_26, k_X12_plain_139_26, e_X12_plain_139_38, k_X12_plain_139_38, e_X12_plain_139_44, k_X12_plain_139_44, e_X12_plain_139_54, k_X12_plain_139_54, e_X12_plain_139_60, k_X12_plain_139_60, e_X12_plain_139_65, k_X12_plain_139_65, e_X12_plain_139_67, e_X12_plain_139_75, k_X12_plain_139_75, W0, W, hw0, hw1, z_A_k, z_fc, hl, q_bd_l, z_ltT, z_ltF, z_eqT, z_eqF, z_ltlT, z_ltlF, z_lltT, z_lltF, z_eqlT, z_eqlF, z_in, z_k7, z_cl, z_lneg, z_llT, z_llF, z_s1, z_nI_cl, z_nlt0, z_ne_m1, z_b0, z_b1, z_la, z_al, z_lm, z_ml, z_nm, nI_add, pk_mul, ↓reduceIte, not_true_eq_false, not_false_eq_true, true_or, or_true, false_or, or_false, true_and, and_true, and_false, false_and, Classical.not_not, Nat.add_zero, z_01, z_em, z_bit_p, Nat.not_le, Nat.not_lt, reduceCtorEq, if_true, if_false]
  rw [if_neg hw1]
  by_cases hw2 : t_isW (t_w 47) B n s = true
  · rw [if_pos hw2]
    refine leaf 47 _ _ _ (by omega) hw2 ?_
    unfold z_b
    by_cases hl : I 139 16 = 2 <;> simp (disch := omega) only [e_X12_plain_139, e_X12_plain_139_3, k_X12_plain_139_3, e_X12_plain_139_14, k_X12_plain_139_14, e_X12_plain_139_26, k_X12_plain_139_26, e_X12_plain_139_38, k_X12_plain_139_38, e_X12_plain_139_44, k_X12_plain_139_44, e_X12_plain_139_54, k_X12_plain_139_54, e_X12_plain_139_60, k_X12_plain_139_60, e_X12_plain_139_65, k_X12_plain_139_65, e_X12_plain_139_67, e_X12_plain_139_75, k_X12_plain_139_75, W0, W, hw0, hw1, hw2, z_A_k, z_fc, hl, q_bd_l, z_ltT, z_ltF, z_eqT, z_eqF, z_ltlT, z_ltlF, z_lltT, z_lltF, z_eqlT, z_eqlF, z_in, z_k7, z_cl, z_lneg, z_llT, z_llF, z_s1, z_nI_cl, z_nlt0, z_ne_m1, z_b0, z_b1, z_la, z_al, z_lm, z_ml, z_nm, nI_add, pk_mul, ↓reduceIte, not_true_eq_false, not_false_eq_true, true_or, or_true, false_or, or_false, true_and, and_true, and_false, false_and, Classical.not_not, Nat.add_zero, z_01, z_em, z_bit_p, Nat.not_le, Nat.not_lt, reduceCtorEq, if_true, if_false]
  rw [if_neg hw2]
  by_cases hw3 : t_isW (t_w 63) B n s = true
  · rw [if_pos hw3]
    refine leaf 63 _ _ _ (by omega) hw3 ?_
    have ho' : (I 139 17 = 0 ∨ I 139 17 = 1) = True := eq_true ho
    simp (disch := omega) only [e_X12_plain_139, e_X12_plain_139_3, k_X12_plain_139_3, e_X12_plain_139_14, k_X12_plain_139_14, e_X12_plain_139_26, k_X12_plain_139_26, e_X12_plain_139_38, k_X12_plain_139_38, e_X12_plain_139_44, k_X12_plain_139_44, e_X12_plain_139_54, k_X12_plain_139_54, e_X12_plain_139_60, k_X12_plain_139_60, e_X12_plain_139_65, k_X12_plain_139_65, e_X12_plain_139_67, e_X12_plain_139_75, k_X12_plain_139_75, W0, W, hw0, hw1, hw2, hw3, z_A_k, z_fc, ho', q_bd_l, z_ltT, z_ltF, z_eqT, z_eqF, z_ltlT, z_ltlF, z_lltT, z_lltF, z_eqlT, z_eqlF, z_in, z_k7, z_cl, z_lneg, z_llT, z_llF, z_s1, z_nI_cl, z_nlt0, z_ne_m1, z_b0, z_b1, z_la, z_al, z_lm, z_ml, z_nm, nI_add, pk_mul, ↓reduceIte, not_true_eq_false, not_false_eq_true, true_or, or_true, false_or, or_false, true_and, and_true, and_false, false_and, Classical.not_not, Nat.add_zero, z_01, z_em, z_bit_p, Nat.not_le, Nat.not_lt, reduceCtorEq, if_true, if_false]
  rw [if_neg hw3]
  have sm := sm hs
  rw [hss] at sm
  have go : q_bd (c_X12_has__139 X (d + 6) 45 (z_A I p) T) (fun v9 h' => q_res X q_sb q_pg (d + 6) cd_X12_plain 3 [some (.ref 139), none, none, none] (v9.toList ++ []) h') = q_bd (c_X12_sum_139 X (d + 6) (z_A I s) T) (fun v9 h' => q_res X q_sb q_pg (d + 6) cd_X12_plain 44 [some (.ref 139), none, none, none] (v9.toList ++ []) h') := by
    simp (disch := omega) only [e_X12_plain_139_3, e_X12_plain_139_14, e_X12_plain_139_26, e_X12_plain_139_38, k_X12_plain_139_3, k_X12_plain_139_14, k_X12_plain_139_26, k_X12_plain_139_38, W0, W, hw0, hw1, hw2, hw3, q_bd_l, z_ltT, z_ltF, z_eqT, z_eqF, z_ltlT, z_ltlF, z_lltT, z_lltF, z_eqlT, z_eqlF, z_in, z_k7, z_cl, z_lneg, z_llT, z_llF, z_s1, z_nI_cl, z_nlt0, z_ne_m1, z_b0, z_b1, z_la, z_al, z_lm, z_ml, z_nm, nI_add, pk_mul, ↓reduceIte, not_true_eq_false, not_false_eq_true, true_or, or_true, false_or, or_false, true_and, and_true, and_false, false_and, Classical.not_not, Nat.add_zero, z_01, z_em, z_bit_p, Nat.not_le, Nat.not_lt, reduceCtorEq, if_true, if_false]
  rw [go]
  cases hr : P_sum B n f s with
  | none => rw [p_bd_n]; exact z_po_no
  | some r =>
    rw [hr] at sm
    cases r with
    | error e =>
      rw [p_bd_e]
      obtain ⟨v2, J, x1, -, x2, x3, x4⟩ := sm.2 e rfl
      have x31 := x3.1
      refine z_po_er 0 J ?_ (.inl rfl) x2 x3 x4
      simp (disch := omega) only [e_X12_plain_139, e_X12_plain_139_3, k_X12_plain_139_3, e_X12_plain_139_14, k_X12_plain_139_14, e_X12_plain_139_26, k_X12_plain_139_26, e_X12_plain_139_38, k_X12_plain_139_38, e_X12_plain_139_44, k_X12_plain_139_44, e_X12_plain_139_54, k_X12_plain_139_54, e_X12_plain_139_60, k_X12_plain_139_60, e_X12_plain_139_65, k_X12_plain_139_65, e_X12_plain_139_67, e_X12_plain_139_75, k_X12_plain_139_75, x1, x2, q_bd_l, z_ltT, z_ltF, z_eqT, z_eqF, z_ltlT, z_ltlF, z_lltT, z_lltF, z_eqlT, z_eqlF, z_in, z_k7, z_cl, z_lneg, z_llT, z_llF, z_s1, z_nI_cl, z_nlt0, z_ne_m1, z_b0, z_b1, z_la, z_al, z_lm, z_ml, z_nm, nI_add, pk_mul, ↓reduceIte, not_true_eq_false, not_false_eq_true, true_or, or_true, false_or, or_false, true_and, and_true, and_false, false_and, Classical.not_not, Nat.add_zero, z_01, z_em, z_bit_p, Nat.not_le, Nat.not_lt, reduceCtorEq, if_true, if_false]
    | ok a =>
      rw [p_bd_o]
      obtain ⟨q1, y1, y2, y3⟩ := sm.1 a rfl
      have s1 := fun (d c : Nat) (hc : c < 256) => l_isSign X d I T h q1 y1 c hc
      have s2 := fun (d c : Nat) (hp2 : a.1 ≤ n) (hc : c < 256) => l_isSign X d I T h a.1 hp2 c hc
      have hal : a.1 ≤ n := by rw [← y2]; exact t_sk_le y1
      have eaa : t_sk B n a.1 = a.1 := by rw [← y2]; exact t_sk_sk B n q1
      rw [y2] at s1
      rw [eaa] at s2
      have s60 := s1 (d + 3) 60 (by decide)
      have s62 := s2 (d + 3) 62 hal (by decide)
      by_cases hS : t_isS 60 B n a.1 = true
      · rw [if_pos hS]
        have hn := t_isS_nx hS
        have e1 : t_sk B n (a.1 + 1) = t_nx B n a.1 := by rw [← t_end_S hS rfl rfl]; rfl
        have sm2 := l_Sm X d I T h hf hD f (a.1 + 1) (by omega)
        rw [e1] at sm2
        cases hr2 : P_sum B n f (t_nx B n a.1) with
        | none => rw [p_bd_n]; exact z_po_no
        | some r2 =>
          rw [hr2] at sm2
          cases r2 with
          | error e =>
            rw [p_bd_e]
            obtain ⟨v2, J, x1, -, x2, x3, x4⟩ := sm2.2 e rfl
            refine z_po_er (z_b (a.2.2 (z_fc I) < v2)) J ?_ (z_b_01 _) x2 x3 x4
            unfold z_b
            by_cases hl : a.2.2 (z_fc I) < v2 <;> simp (disch := omega) only [e_X12_plain_139, e_X12_plain_139_3, k_X12_plain_139_3, e_X12_plain_139_14, k_X12_plain_139_14, e_X12_plain_139_26, k_X12_plain_139_26, e_X12_plain_139_38, k_X12_plain_139_38, e_X12_plain_139_44, k_X12_plain_139_44, e_X12_plain_139_54, k_X12_plain_139_54, e_X12_plain_139_60, k_X12_plain_139_60, e_X12_plain_139_65, k_X12_plain_139_65, e_X12_plain_139_67, e_X12_plain_139_75, k_X12_plain_139_75, y3, z_A_11, z_A_k, hf, s60, hS, z_A_w, x1, hl, q_bd_l, z_ltT, z_ltF, z_eqT, z_eqF, z_ltlT, z_ltlF, z_lltT, z_lltF, z_eqlT, z_eqlF, z_in, z_k7, z_cl, z_lneg, z_llT, z_llF, z_s1, z_nI_cl, z_nlt0, z_ne_m1, z_b0, z_b1, z_la, z_al, z_lm, z_ml, z_nm, nI_add, pk_mul, ↓reduceIte, not_true_eq_false, not_false_eq_true, true_or, or_true, false_or, or_false, true_and, and_true, and_false, false_and, Classical.not_not, Nat.add_zero, z_01, z_em, z_bit_p, Nat.not_le, Nat.not_lt, reduceCtorEq, if_true, if_false]
          | ok b =>
            rw [p_bd_o]
            obtain ⟨q2, w1, w2, w3⟩ := sm2.1 b rfl
            refine z_po_ok q2 w1 w2 ?_
            unfold z_b
            by_cases hl : a.2.2 (z_fc I) < b.2.2 (z_fc I) <;> simp (disch := omega) only [e_X12_plain_139, e_X12_plain_139_3, k_X12_plain_139_3, e_X12_plain_139_14, k_X12_plain_139_14, e_X12_plain_139_26, k_X12_plain_139_26, e_X12_plain_139_38, k_X12_plain_139_38, e_X12_plain_139_44, k_X12_plain_139_44, e_X12_plain_139_54, k_X12_plain_139_54, e_X12_plain_139_60, k_X12_plain_139_60, e_X12_plain_139_65, k_X12_plain_139_65, e_X12_plain_139_67, e_X12_plain_139_75, k_X12_plain_139_75, y3, z_A_11, z_A_k, hf, s60, hS, z_A_w, w3, hl, q_bd_l, z_ltT, z_ltF, z_eqT, z_eqF, z_ltlT, z_ltlF, z_lltT, z_lltF, z_eqlT, z_eqlF, z_in, z_k7, z_cl, z_lneg, z_llT, z_llF, z_s1, z_nI_cl, z_nlt0, z_ne_m1, z_b0, z_b1, z_la, z_al, z_lm, z_ml, z_nm, nI_add, pk_mul, ↓reduceIte, not_true_eq_false, not_false_eq_true, true_or, or_true, false_or, or_false, true_and, and_true, and_false, false_and, Classical.not_not, Nat.add_zero, z_01, z_em, z_bit_p, Nat.not_le, Nat.not_lt, reduceCtorEq, if_true, if_false]
      · rw [if_neg hS]
        by_cases hS2 : t_isS 62 B n a.1 = true
        · rw [if_pos hS2]
          have hn := t_isS_nx hS2
          have e1 : t_sk B n (a.1 + 1) = t_nx B n a.1 := by rw [← t_end_S hS2 rfl rfl]; rfl
          have sm2 := l_Sm X d I T h hf hD f (a.1 + 1) (by omega)
          rw [e1] at sm2
          cases hr2 : P_sum B n f (t_nx B n a.1) with
          | none => rw [p_bd_n]; exact z_po_no
          | some r2 =>
            rw [hr2] at sm2
            cases r2 with
            | error e =>
              rw [p_bd_e]
              obtain ⟨v2, J, x1, -, x2, x3, x4⟩ := sm2.2 e rfl
              refine z_po_er (z_b (v2 < a.2.2 (z_fc I))) J ?_ (z_b_01 _) x2 x3 x4
              unfold z_b
              by_cases hl : v2 < a.2.2 (z_fc I) <;> simp (disch := omega) only [e_X12_plain_139, e_X12_plain_139_3, k_X12_plain_139_3, e_X12_plain_139_14, k_X12_plain_139_14, e_X12_plain_139_26, k_X12_plain_139_26, e_X12_plain_139_38, k_X12_plain_139_38, e_X12_plain_139_44, k_X12_plain_139_44, e_X12_plain_139_54, k_X12_plain_139_54, e_X12_plain_139_60, k_X12_plain_139_60, e_X12_plain_139_65, k_X12_plain_139_65, e_X12_plain_139_67, e_X12_plain_139_75, k_X12_plain_139_75, y3, z_A_11, z_A_k, hf, s60, s62, hS, hS2, z_A_w, x1, hl, q_bd_l, z_ltT, z_ltF, z_eqT, z_eqF, z_ltlT, z_ltlF, z_lltT, z_lltF, z_eqlT, z_eqlF, z_in, z_k7, z_cl, z_lneg, z_llT, z_llF, z_s1, z_nI_cl, z_nlt0, z_ne_m1, z_b0, z_b1, z_la, z_al, z_lm, z_ml, z_nm, nI_add, pk_mul, ↓reduceIte, not_true_eq_false, not_false_eq_true, true_or, or_true, false_or, or_false, true_and, and_true, and_false, false_and, Classical.not_not, Nat.add_zero, z_01, z_em, z_bit_p, Nat.not_le, Nat.not_lt, reduceCtorEq, if_true, if_false]
            | ok b =>
              rw [p_bd_o]
              obtain ⟨q2, w1, w2, w3⟩ := sm2.1 b rfl
              refine z_po_ok q2 w1 w2 ?_
              unfold z_b
              by_cases hl : b.2.2 (z_fc I) < a.2.2 (z_fc I) <;> simp (disch := omega) only [e_X12_plain_139, e_X12_plain_139_3, k_X12_plain_139_3, e_X12_plain_139_14, k_X12_plain_139_14, e_X12_plain_139_26, k_X12_plain_139_26, e_X12_plain_139_38, k_X12_plain_139_38, e_X12_plain_139_44, k_X12_plain_139_44, e_X12_plain_139_54, k_X12_plain_139_54, e_X12_plain_139_60, k_X12_plain_139_60, e_X12_plain_139_65, k_X12_plain_139_65, e_X12_plain_139_67, e_X12_plain_139_75, k_X12_plain_139_75, y3, z_A_11, z_A_k, hf, s60, s62, hS, hS2, z_A_w, w3, hl, q_bd_l, z_ltT, z_ltF, z_eqT, z_eqF, z_ltlT, z_ltlF, z_lltT, z_lltF, z_eqlT, z_eqlF, z_in, z_k7, z_cl, z_lneg, z_llT, z_llF, z_s1, z_nI_cl, z_nlt0, z_ne_m1, z_b0, z_b1, z_la, z_al, z_lm, z_ml, z_nm, nI_add, pk_mul, ↓reduceIte, not_true_eq_false, not_false_eq_true, true_or, or_true, false_or, or_false, true_and, and_true, and_false, false_and, Classical.not_not, Nat.add_zero, z_01, z_em, z_bit_p, Nat.not_le, Nat.not_lt, reduceCtorEq, if_true, if_false]
        · rw [if_neg hS2]
          refine z_po_er 0 (q_w (z_A I a.1) 139 13 (nI a.1)) ?_ (.inl rfl) (z_w_s _ _ _ _) ⟨hal, z_aw_A I _ _ (by omega) 0⟩ (z_fr_w (z_A_fr I _) 139 13 _ rfl)
          simp (disch := omega) only [e_X12_plain_139, e_X12_plain_139_3, k_X12_plain_139_3, e_X12_plain_139_14, k_X12_plain_139_14, e_X12_plain_139_26, k_X12_plain_139_26, e_X12_plain_139_38, k_X12_plain_139_38, e_X12_plain_139_44, k_X12_plain_139_44, e_X12_plain_139_54, k_X12_plain_139_54, e_X12_plain_139_60, k_X12_plain_139_60, e_X12_plain_139_65, k_X12_plain_139_65, e_X12_plain_139_67, e_X12_plain_139_75, k_X12_plain_139_75, y3, z_A_11, z_A_k, hf, s60, s62, hS, hS2, l_wrong X (d + 5) (nI a.1) (z_A I a.1) T (by rw [z_A_k _ _ _ (by decide)]; exact hf), q_bd_l, z_ltT, z_ltF, z_eqT, z_eqF, z_ltlT, z_ltlF, z_lltT, z_lltF, z_eqlT, z_eqlF, z_in, z_k7, z_cl, z_lneg, z_llT, z_llF, z_s1, z_nI_cl, z_nlt0, z_ne_m1, z_b0, z_b1, z_la, z_al, z_lm, z_ml, z_nm, nI_add, pk_mul, ↓reduceIte, not_true_eq_false, not_false_eq_true, true_or, or_true, false_or, or_false, true_and, and_true, and_false, false_and, Classical.not_not, Nat.add_zero, z_01, z_em, z_bit_p, Nat.not_le, Nat.not_lt, reduceCtorEq, if_true, if_false]
