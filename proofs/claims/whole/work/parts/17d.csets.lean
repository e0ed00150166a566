/-! ===== THE CLASS: best mix, coalition, who agrees, seals ===== -/
theorem z_all_f (p : Nat → Bool) (n : Nat) : z_i (z_all p n) = if z_fst (fun k => !p k) n < n then 0 else 1 := by
  by_cases hz : z_fst (fun k => !p k) n < n
  · rw [if_pos hz]
    have hq := z_fst_any.mpr hz
    rw [z_any_p] at hq
    obtain ⟨k, hk, hp⟩ := hq
    cases ha : z_all p n
    · rfl
    · rw [z_all_p] at ha
      rw [ha k hk] at hp; cases hp
  · rw [if_neg hz]
    have ha : z_all p n = true := by
      rw [z_all_p]
      intro k hk
      cases hp : p k
      · exact absurd (z_fst_any.mp (by rw [z_any_p]; exact ⟨k, hk, by rw [hp]; rfl⟩)) hz
      · rfl
    rw [ha]; rfl
theorem z_any_f (p : Nat → Bool) (n : Nat) : z_i (z_any p n) = if z_fst p n < n then 1 else 0 := by
  by_cases hz : z_fst p n < n
  · rw [if_pos hz, z_fst_any.mpr hz]; rfl
  · rw [if_neg hz]
    cases hq : z_any p n
    · rfl
    · exact absurd (z_fst_any.mp hq) hz
theorem z_it_R {α β : Type} {s : Nat → α → α} {u : Nat → β → β} {R : α → β → Prop} {n : Nat} (h : ∀ k a b, k < n → R a b → R (s k a) (u k b)) {a : α} {b : β} (h0 : R a b) : R (z_it s n a) (z_it u n b) := by
  have key : ∀ k, k ≤ n → R (z_it s k a) (z_it u k b) := by
    intro k
    induction k with
    | zero => intro _; exact h0
    | succ k ih => intro hk; exact h k _ _ (by omega) (ih (by omega))
  exact key n (Nat.le_refl n)
theorem z_clamp_le (a : Int32) : z_le (z_clamp a) 9 := by
  unfold z_clamp
  have t : ∀ x y : Int32, (x < y) ↔ (x.toInt < y.toInt) := fun x y => Int32.lt_iff_toInt_lt
  by_cases h1 : 9 < a
  · rw [if_pos h1]; exact ⟨9, by omega, by decide⟩
  · rw [if_neg h1]
    split
    · exact ⟨0, by omega, rfl⟩
    · rename_i h2
      obtain ⟨k, hk, rfl⟩ := nI_of h2
      rw [show (9 : Int32) = nI 9 from rfl, z_nI_lt 9 k (by omega) hk] at h1
      exact ⟨k, by omega, rfl⟩
theorem R_adv_le (r : Nat → Int32) (j t : Nat) : z_le (R_adv r j t) 9 := z_clamp_le _
theorem z_sz_le {x y m : Nat} (hx : x ≤ m) (hy : y ≤ m) (hm : m < 1000) : z_le (z_sz (nI x - nI y)) m := by
  unfold z_sz
  by_cases h : x < y
  · have e : nI x - nI y < 0 := pk_sneg (by omega) h
    rw [if_pos e]
    refine ⟨y - x, by omega, ?_⟩
    rw [← pk_sub (by omega : x ≤ y)]
    exact Int32.neg_sub
  · rw [pk_sub (by omega : y ≤ x), if_neg (nI_pos (by omega))]
    exact ⟨x - y, by omega, rfl⟩
theorem R_mx_le (r : Nat → Int32) (a b t : Nat) : z_le (R_mx r a b t) 9 := by
  unfold R_mx
  obtain ⟨x, hx, ex⟩ := R_adv_le r a t
  obtain ⟨y, hy, ey⟩ := R_adv_le r b t
  split
  · exact ⟨0, by omega, rfl⟩
  · rw [ex, ey, nI_add, show (2 : Int32) = nI 2 from rfl, pk_div (by omega) (by omega) (by omega)]
    exact ⟨(x + y) / 2, by omega, rfl⟩
theorem R_best_10 (r : Nat → Int32) (n t m : Nat) (hm : m ≤ 9) : R_best r n t (nI m) 10 = R_best r n t (nI m) 2000000000 := by
  have key : ∀ a b (q q' : Int32 × Int32), (q.1 = q'.1 ∧ (q.2 = q'.2 ∨ q.2 = 10 ∧ q'.2 = 2000000000)) → ((R_b1 r t (nI m) a b q).1 = (R_b1 r t (nI m) a b q').1 ∧ ((R_b1 r t (nI m) a b q).2 = (R_b1 r t (nI m) a b q').2 ∨ (R_b1 r t (nI m) a b q).2 = 10 ∧ (R_b1 r t (nI m) a b q').2 = 2000000000)) := by
    intro a b q q' ⟨h1, h2⟩
    obtain ⟨x, hx, ex⟩ := R_mx_le r a b t
    obtain ⟨y, hy, ey⟩ := z_sz_le hx hm (by omega)
    unfold R_b1
    rw [ex, ey]
    rcases h2 with h2 | ⟨h2, h3⟩
    · rw [h2]
      split
      · exact ⟨rfl, .inl rfl⟩
      · exact ⟨h1, .inl h2⟩
    · have e1 : nI y < q.2 := by rw [h2]; exact nI_lt (b := 10) (by omega) (by omega)
      have e2 : nI y < q'.2 := by rw [h3]; exact nI_lt (b := 2000000000) (by omega) (by omega)
      rw [if_pos e1, if_pos e2]
      exact ⟨rfl, .inl rfl⟩
  unfold R_best
  refine (z_it_R (R := fun (q q' : Int32 × Int32) => q.1 = q'.1 ∧ (q.2 = q'.2 ∨ q.2 = 10 ∧ q'.2 = 2000000000)) (a := ((-1 : Int32), (10 : Int32))) (b := ((-1 : Int32), (2000000000 : Int32))) (fun a q q' _ h => ?_) ⟨rfl, .inr ⟨rfl, rfl⟩⟩).1
  exact z_it_R (R := fun (q q' : Int32 × Int32) => q.1 = q'.1 ∧ (q.2 = q'.2 ∨ q.2 = 10 ∧ q'.2 = 2000000000)) (fun i q q' _ h => key a (a + 1 + i) q q' h) h
theorem k_best (X : Sx) (d : Nat) (I : Ii) (T : Tt) (r : Nat → Int32) (n m t : Nat) (num : Int32) (h : k_H27 I r n m) (ht : t < 6) : ∃ J, c_X1_bestMixOf_128 X (d + 7) (nI t) num I T = z_r (R_best r n t num 10) J T ∧ z_fr m_cs I J := by
  have hn := h.1.2.1
  obtain ⟨J, j1, j2, j3, -⟩ := k_hear X d I T r n m t h ht
  have hJ := k_H27_cs h (z_cs_h j2)
  have n3 := k_n3 hJ
  have hd : ∀ (d' j : Nat), j < n → c_X1_heard_128 X (d' + 1) (nI j) (nI t) J T = z_r (R_adv r j t) J T := by
    intro d' j hj
    have e := j3 j hj
    rw [e_X1_heard_128]
    simp (disch := omega) only [e, q_bd_l, z_ltT, z_ltF, z_eqT, z_eqF, z_ltlT, z_ltlF, z_lltT, z_lltF, z_eqlT, z_eqlF, z_in, z_k7, z_cl, z_lneg, z_llT, z_llF, z_s1, z_nI_cl, z_nlt0, z_ne_m1, z_b0, z_b1, z_la, z_al, z_lm, z_ml, z_nm, nI_add, pk_mul, ↓reduceIte, not_true_eq_false, not_false_eq_true, true_or, or_true, false_or, or_false, true_and, and_true, and_false, false_and, Classical.not_not, Nat.add_zero, z_01, z_em, z_bit_p, Nat.not_le, Nat.not_lt, reduceCtorEq, if_true, if_false]
  refine ⟨J, ?_, z_cs_h j2⟩
  obtain ⟨⟨o6, o7, o8⟩, -, p4⟩ := z_foldP (β := Int32 × Int32) (σ := Option Value × Option Value × Option Value) (fun k q o => c_X1_bestMixOf_128_9 X (d + 6) (nI t) num q.1 q.2 (nI k) o.1 o.2.1 o.2.2 J T) (R_b2 r n t num) (fun _ _ _ => True) n (by
    intro k q o hk _
    obtain ⟨⟨p7, p8⟩, -, q4⟩ := z_foldP (β := Int32 × Int32) (σ := Option Value × Option Value) (fun i q o => c_X1_bestMixOf_128_18 X (d + 6) (nI t) num q.1 q.2 (nI k) (nI (k + 1 + i)) o.1 o.2 J T) (fun i q => R_b1 r t num k (k + 1 + i) q) (fun _ _ _ => True) (n - (k + 1)) (by
      intro i q o hi _
      refine ⟨(some (.int (R_mx r k (k + 1 + i) t)), some (.int (z_sz (R_mx r k (k + 1 + i) t - num)))), trivial, ?_⟩
      dsimp only
      rw [e_X1_bestMixOf_128_18]
      unfold R_b1
      have h1 := fun d' => hd d' k hk
      have h2 := fun d' => hd d' (k + 1 + i) (by omega)
      have e9 : k + 1 + (i + 1) = k + 1 + i + 1 := by omega
      by_cases hc : z_sz (R_mx r k (k + 1 + i) t - num) < q.2 <;> simp (disch := omega) only [e_X1_bestMixOf_128_3, k_X1_bestMixOf_128_3, e_X1_bestMixOf_128_27, k_X1_bestMixOf_128_27, e_X1_bestMixOf_128_31, k_X1_bestMixOf_128_31, e_X1_bestMixOf_128_32, k_X1_bestMixOf_128_32, e_X1_bestMixOf_128_49, n3, h1, h2, k_mixedC, z_abs_c, hc, e9, q_bd_l, z_ltT, z_ltF, z_eqT, z_eqF, z_ltlT, z_ltlF, z_lltT, z_lltF, z_eqlT, z_eqlF, z_in, z_k7, z_cl, z_lneg, z_llT, z_llF, z_s1, z_nI_cl, z_nlt0, z_ne_m1, z_b0, z_b1, z_la, z_al, z_lm, z_ml, z_nm, nI_add, pk_mul, ↓reduceIte, not_true_eq_false, not_false_eq_true, true_or, or_true, false_or, or_false, true_and, and_true, and_false, false_and, Classical.not_not, Nat.add_zero, z_01, z_em, z_bit_p, Nat.not_le, Nat.not_lt, reduceCtorEq, if_true, if_false]) q o.2 trivial
    refine ⟨(some (.int (nI (k + 1 + (n - (k + 1))))), p7, p8), trivial, ?_⟩
    dsimp only
    rw [e_X1_bestMixOf_128_9]
    simp (disch := omega) only [n3, q_bd_l, z_ltT, z_ltF, z_eqT, z_eqF, z_ltlT, z_ltlF, z_lltT, z_lltF, z_eqlT, z_eqlF, z_in, z_k7, z_cl, z_lneg, z_llT, z_llF, z_s1, z_nI_cl, z_nlt0, z_ne_m1, z_b0, z_b1, z_la, z_al, z_lm, z_ml, z_nm, nI_add, pk_mul, ↓reduceIte, not_true_eq_false, not_false_eq_true, true_or, or_true, false_or, or_false, true_and, and_true, and_false, false_and, Classical.not_not, Nat.add_zero, z_01, z_em, z_bit_p, Nat.not_le, Nat.not_lt, reduceCtorEq, if_true, if_false]
    refine q4.trans ?_
    rw [e_X1_bestMixOf_128_18]
    simp (disch := omega) only [n3, q_bd_l, z_ltT, z_ltF, z_eqT, z_eqF, z_ltlT, z_ltlF, z_lltT, z_lltF, z_eqlT, z_eqlF, z_in, z_k7, z_cl, z_lneg, z_llT, z_llF, z_s1, z_nI_cl, z_nlt0, z_ne_m1, z_b0, z_b1, z_la, z_al, z_lm, z_ml, z_nm, nI_add, pk_mul, ↓reduceIte, not_true_eq_false, not_false_eq_true, true_or, or_true, false_or, or_false, true_and, and_true, and_false, false_and, Classical.not_not, Nat.add_zero, z_01, z_em, z_bit_p, Nat.not_le, Nat.not_lt, reduceCtorEq, if_true, if_false]
    rfl) (-1, 10) (none, none, none) trivial
  rw [e_X1_bestMixOf_128, j1]
  simp (disch := omega) only [e_X1_bestMixOf_128_3, k_X1_bestMixOf_128_3, q_bd_l, z_ltT, z_ltF, z_eqT, z_eqF, z_ltlT, z_ltlF, z_lltT, z_lltF, z_eqlT, z_eqlF, z_in, z_k7, z_cl, z_lneg, z_llT, z_llF, z_s1, z_nI_cl, z_nlt0, z_ne_m1, z_b0, z_b1, z_la, z_al, z_lm, z_ml, z_nm, nI_add, pk_mul, ↓reduceIte, not_true_eq_false, not_false_eq_true, true_or, or_true, false_or, or_false, true_and, and_true, and_false, false_and, Classical.not_not, Nat.add_zero, z_01, z_em, z_bit_p, Nat.not_le, Nat.not_lt, reduceCtorEq, if_true, if_false]
  refine p4.trans ?_
  dsimp only
  rw [e_X1_bestMixOf_128_9]
  simp (disch := omega) only [n3, q_bd_l, z_ltT, z_ltF, z_eqT, z_eqF, z_ltlT, z_ltlF, z_lltT, z_lltF, z_eqlT, z_eqlF, z_in, z_k7, z_cl, z_lneg, z_llT, z_llF, z_s1, z_nI_cl, z_nlt0, z_ne_m1, z_b0, z_b1, z_la, z_al, z_lm, z_ml, z_nm, nI_add, pk_mul, ↓reduceIte, not_true_eq_false, not_false_eq_true, true_or, or_true, false_or, or_false, true_and, and_true, and_false, false_and, Classical.not_not, Nat.add_zero, z_01, z_em, z_bit_p, Nat.not_le, Nat.not_lt, reduceCtorEq, if_true, if_false]
  rfl
-- coalition
theorem k_everyJar (X : Sx) (d : Nat) (I : Ii) (T : Tt) (n : Nat) (h3 : I 3 0 = nI n) (hn : n ≤ 10) : c_X9_everyJar_3 X (d + 1) I T = z_r (nI (2 ^ n - 1)) I T := by
  have h2 := z_2n hn
  have e : nI (2 ^ n) - (1 : Int32) = nI (2 ^ n - 1) := pk_sub h2.1
  rw [e_X9_everyJar_3, h3, z_shl1 n (by omega), e]
theorem k_isPeaceful (X : Sx) (d : Nat) (I : Ii) (T : Tt) (r : Nat → Int32) (n s : Nat) (hn : n ≤ 10) (h3 : I 3 0 = nI n) (hc : ∀ j, j < n → I 130 j = R_cl r n j) : c_X1_isPeaceful_128 X (d + 2) (nI s) I T = z_r (z_i (z_all (fun j => !z_bit (nI s) j || decide (R_cl r n j &&& nI s = 0)) n)) I T := by
  rw [e_X1_isPeaceful_128, z_all_f]
  refine (z_find (fun j => c_X1_isPeaceful_128_2 X (d + 1) (nI s) (nI j) I T) (fun _ => z_r 0 I T) (fun j => !(!z_bit (nI s) j || decide (R_cl r n j &&& nI s = 0))) n (fun j hj => ?_)).trans ?_
  · have e := hc j hj
    rw [e_X1_isPeaceful_128_2]
    cases hb : z_bit (nI s) j with
    | false => simp (disch := omega) only [e_X1_isPeaceful_128_10, k_X1_isPeaceful_128_10, e_X1_isPeaceful_128_20, h3, k_cIn, hb, q_bd_l, z_ltT, z_ltF, z_eqT, z_eqF, z_ltlT, z_ltlF, z_lltT, z_lltF, z_eqlT, z_eqlF, z_in, z_k7, z_cl, z_lneg, z_llT, z_llF, z_s1, z_nI_cl, z_nlt0, z_ne_m1, z_b0, z_b1, z_la, z_al, z_lm, z_ml, z_nm, nI_add, pk_mul, ↓reduceIte, not_true_eq_false, not_false_eq_true, true_or, or_true, false_or, or_false, true_and, and_true, and_false, false_and, Classical.not_not, Nat.add_zero, z_01, z_em, z_bit_p, Nat.not_le, Nat.not_lt, reduceCtorEq, if_true, if_false, decide_true, decide_false, Bool.and_true, Bool.and_false, Bool.true_and, Bool.false_and, Bool.or_true, Bool.or_false, Bool.true_or, Bool.false_or, Bool.false_eq_true, ne_eq, Bool.not_true, Bool.not_false, decide_not]
    | true => by_cases hq : R_cl r n j &&& nI s = 0 <;> simp (disch := omega) only [e_X1_isPeaceful_128_10, k_X1_isPeaceful_128_10, e_X1_isPeaceful_128_20, h3, k_cIn, hb, e, hq, q_bd_l, z_ltT, z_ltF, z_eqT, z_eqF, z_ltlT, z_ltlF, z_lltT, z_lltF, z_eqlT, z_eqlF, z_in, z_k7, z_cl, z_lneg, z_llT, z_llF, z_s1, z_nI_cl, z_nlt0, z_ne_m1, z_b0, z_b1, z_la, z_al, z_lm, z_ml, z_nm, nI_add, pk_mul, ↓reduceIte, not_true_eq_false, not_false_eq_true, true_or, or_true, false_or, or_false, true_and, and_true, and_false, false_and, Classical.not_not, Nat.add_zero, z_01, z_em, z_bit_p, Nat.not_le, Nat.not_lt, reduceCtorEq, if_true, if_false, decide_true, decide_false, Bool.and_true, Bool.and_false, Bool.true_and, Bool.false_and, Bool.or_true, Bool.or_false, Bool.true_or, Bool.false_or, Bool.false_eq_true, ne_eq, Bool.not_true, Bool.not_false, decide_not]
  · rw [e_X1_isPeaceful_128_2]
    split
    · rfl
    · simp (disch := omega) only [h3, q_bd_l, z_ltT, z_ltF, z_eqT, z_eqF, z_ltlT, z_ltlF, z_lltT, z_lltF, z_eqlT, z_eqlF, z_in, z_k7, z_cl, z_lneg, z_llT, z_llF, z_s1, z_nI_cl, z_nlt0, z_ne_m1, z_b0, z_b1, z_la, z_al, z_lm, z_ml, z_nm, nI_add, pk_mul, ↓reduceIte, not_true_eq_false, not_false_eq_true, true_or, or_true, false_or, or_false, true_and, and_true, and_false, false_and, Classical.not_not, Nat.add_zero, z_01, z_em, z_bit_p, Nat.not_le, Nat.not_lt, reduceCtorEq, if_true, if_false]
theorem k_coalition (X : Sx) (d : Nat) (I : Ii) (T : Tt) (r : Nat → Int32) (n m : Nat) (h : k_H27 I r n m) : ∃ J, c_X1_largestCoalition_128 X (d + 8) I T = z_r (R_coal r n) J T ∧ z_fr m_cs I J := by
  have hn := h.1.2.1
  have h2 := z_2n hn
  obtain ⟨A, a1, a2, a3⟩ := k_hearAll X d I T r n m h
  obtain ⟨J, ⟨p1, p2, p3⟩, p4⟩ := z_foldP (β := Unit) (σ := Ii) (fun j _ J => c_X1_largestCoalition_128_4 X (d + 7) (nI j) J T) (fun _ u => u) (fun k _ J => z_fr m_cs I J ∧ k_A J r n m ∧ ∀ j, j < k → J 130 j = R_cl r n j) n (by
    intro k _ J hk ⟨q1, q2, q3⟩
    have n3 := k_n3 q2.1
    have f : z_fr m_cs J (q_w J 130 k (R_cl r n k)) := z_fr_w (z_fr_r _ _) 130 k _ rfl
    refine ⟨q_w J 130 k (R_cl r n k), ⟨z_fr_t q1 f, ⟨k_H27_cs q2.1 f, fun j t hj ht => by rw [z_w_a _ _ _ _ _ (by decide)]; exact q2.2 j t hj ht⟩, fun j hj => ?_⟩, ?_⟩
    · by_cases e : j = k
      · subst e; exact z_w_s _ _ _ _
      · rw [z_w_k _ _ _ _ _ e]; exact q3 j (by omega)
    · rw [e_X1_largestCoalition_128_4]
      simp (disch := omega) only [e_X1_largestCoalition_128_15, k_X1_largestCoalition_128_15, n3, k_heardClashes X _ J T r n m k q2 hk, q_bd_l, z_ltT, z_ltF, z_eqT, z_eqF, z_ltlT, z_ltlF, z_lltT, z_lltF, z_eqlT, z_eqlF, z_in, z_k7, z_cl, z_lneg, z_llT, z_llF, z_s1, z_nI_cl, z_nlt0, z_ne_m1, z_b0, z_b1, z_la, z_al, z_lm, z_ml, z_nm, nI_add, pk_mul, ↓reduceIte, not_true_eq_false, not_false_eq_true, true_or, or_true, false_or, or_false, true_and, and_true, and_false, false_and, Classical.not_not, Nat.add_zero, z_01, z_em, z_bit_p, Nat.not_le, Nat.not_lt, reduceCtorEq, if_true, if_false]) () A ⟨a2, a3, fun j hj => by omega⟩
  have n3 := k_n3 p2.1
  obtain ⟨o, -, t4⟩ := z_foldP (β := Int32) (σ := Option Value) (fun k f o => c_X1_largestCoalition_128_28 X (d + 7) f (R_bits f) (nI (2 ^ n - 1)) (nI (k + 1)) o J T) (fun k f => R_c1 r n (k + 1) f) (fun _ _ _ => True) (2 ^ n - 1) (by
    intro k f o hk _
    refine ⟨some (.int (R_bits (nI (k + 1)))), trivial, ?_⟩
    rw [e_X1_largestCoalition_128_28]
    unfold R_c1
    have bc := k_bc X (d + 6) J T (k + 1) (by omega)
    have pe := k_isPeaceful X (d + 5) J T r n (k + 1) hn n3 p3
    by_cases h1 : R_bits f < R_bits (nI (k + 1))
    · cases hg : z_all (fun j => !z_bit (nI (k + 1)) j || decide (R_cl r n j &&& nI (k + 1) = 0)) n <;> (rw [hg] at pe; simp (disch := omega) only [e_X1_largestCoalition_128_2, k_X1_largestCoalition_128_2, e_X1_largestCoalition_128_15, k_X1_largestCoalition_128_15, e_X1_largestCoalition_128_25, k_X1_largestCoalition_128_25, e_X1_largestCoalition_128_33, k_X1_largestCoalition_128_33, e_X1_largestCoalition_128_40, k_X1_largestCoalition_128_40, e_X1_largestCoalition_128_45, bc, h1, pe, z_i, q_bd_l, z_ltT, z_ltF, z_eqT, z_eqF, z_ltlT, z_ltlF, z_lltT, z_lltF, z_eqlT, z_eqlF, z_in, z_k7, z_cl, z_lneg, z_llT, z_llF, z_s1, z_nI_cl, z_nlt0, z_ne_m1, z_b0, z_b1, z_la, z_al, z_lm, z_ml, z_nm, nI_add, pk_mul, ↓reduceIte, not_true_eq_false, not_false_eq_true, true_or, or_true, false_or, or_false, true_and, and_true, and_false, false_and, Classical.not_not, Nat.add_zero, z_01, z_em, z_bit_p, Nat.not_le, Nat.not_lt, reduceCtorEq, if_true, if_false, decide_true, decide_false, Bool.and_true, Bool.and_false, Bool.true_and, Bool.false_and, Bool.or_true, Bool.or_false, Bool.true_or, Bool.false_or, Bool.false_eq_true, ne_eq, Bool.not_true, Bool.not_false, decide_not])
    · simp (disch := omega) only [e_X1_largestCoalition_128_2, k_X1_largestCoalition_128_2, e_X1_largestCoalition_128_15, k_X1_largestCoalition_128_15, e_X1_largestCoalition_128_25, k_X1_largestCoalition_128_25, e_X1_largestCoalition_128_33, k_X1_largestCoalition_128_33, e_X1_largestCoalition_128_40, k_X1_largestCoalition_128_40, e_X1_largestCoalition_128_45, bc, h1, q_bd_l, z_ltT, z_ltF, z_eqT, z_eqF, z_ltlT, z_ltlF, z_lltT, z_lltF, z_eqlT, z_eqlF, z_in, z_k7, z_cl, z_lneg, z_llT, z_llF, z_s1, z_nI_cl, z_nlt0, z_ne_m1, z_b0, z_b1, z_la, z_al, z_lm, z_ml, z_nm, nI_add, pk_mul, ↓reduceIte, not_true_eq_false, not_false_eq_true, true_or, or_true, false_or, or_false, true_and, and_true, and_false, false_and, Classical.not_not, Nat.add_zero, z_01, z_em, z_bit_p, Nat.not_le, Nat.not_lt, reduceCtorEq, if_true, if_false, decide_true, decide_false, Bool.and_true, Bool.and_false, Bool.true_and, Bool.false_and, Bool.or_true, Bool.or_false, Bool.true_or, Bool.false_or, Bool.false_eq_true, ne_eq, Bool.not_true, Bool.not_false, decide_not]) 0 none trivial
  refine ⟨J, ?_, p1⟩
  have st : c_X1_largestCoalition_128 X (d + 8) I T = c_X1_largestCoalition_128_4 X (d + 7) (nI 0) A T := by
    rw [e_X1_largestCoalition_128, a1]
    simp (disch := omega) only [e_X1_largestCoalition_128_2, k_X1_largestCoalition_128_2, q_bd_l, z_ltT, z_ltF, z_eqT, z_eqF, z_ltlT, z_ltlF, z_lltT, z_lltF, z_eqlT, z_eqlF, z_in, z_k7, z_cl, z_lneg, z_llT, z_llF, z_s1, z_nI_cl, z_nlt0, z_ne_m1, z_b0, z_b1, z_la, z_al, z_lm, z_ml, z_nm, nI_add, pk_mul, ↓reduceIte, not_true_eq_false, not_false_eq_true, true_or, or_true, false_or, or_false, true_and, and_true, and_false, false_and, Classical.not_not, Nat.add_zero, z_01, z_em, z_bit_p, Nat.not_le, Nat.not_lt, reduceCtorEq, if_true, if_false]
    rfl
  rw [st]
  refine p4.trans ?_
  have st2 : c_X1_largestCoalition_128_4 X (d + 7) (nI n) J T = c_X1_largestCoalition_128_28 X (d + 7) 0 (R_bits 0) (nI (2 ^ n - 1)) (nI (0 + 1)) none J T := by
    have b0 : R_bits 0 = 0 := by decide
    rw [e_X1_largestCoalition_128_4, b0]
    simp (disch := omega) only [e_X1_largestCoalition_128_25, k_X1_largestCoalition_128_25, n3, k_everyJar X _ J T n n3 hn, q_bd_l, z_ltT, z_ltF, z_eqT, z_eqF, z_ltlT, z_ltlF, z_lltT, z_lltF, z_eqlT, z_eqlF, z_in, z_k7, z_cl, z_lneg, z_llT, z_llF, z_s1, z_nI_cl, z_nlt0, z_ne_m1, z_b0, z_b1, z_la, z_al, z_lm, z_ml, z_nm, nI_add, pk_mul, ↓reduceIte, not_true_eq_false, not_false_eq_true, true_or, or_true, false_or, or_false, true_and, and_true, and_false, false_and, Classical.not_not, Nat.add_zero, z_01, z_em, z_bit_p, Nat.not_le, Nat.not_lt, reduceCtorEq, if_true, if_false]
    rfl
  rw [st2]
  refine t4.trans ?_
  rw [e_X1_largestCoalition_128_28]
  have hlt : (nI (2 ^ n - 1) < nI (2 ^ n - 1 + 1)) = True := z_ltT _ _ (by omega) (by omega)
  simp (disch := omega) only [hlt, q_bd_l, z_ltT, z_ltF, z_eqT, z_eqF, z_ltlT, z_ltlF, z_lltT, z_lltF, z_eqlT, z_eqlF, z_in, z_k7, z_cl, z_lneg, z_llT, z_llF, z_s1, z_nI_cl, z_nlt0, z_ne_m1, z_b0, z_b1, z_la, z_al, z_lm, z_ml, z_nm, nI_add, pk_mul, ↓reduceIte, not_true_eq_false, not_false_eq_true, true_or, or_true, false_or, or_false, true_and, and_true, and_false, false_and, Classical.not_not, Nat.add_zero, z_01, z_em, z_bit_p, Nat.not_le, Nat.not_lt, reduceCtorEq, if_true, if_false]
  unfold R_coal
  have e0 : R_c1 r n 0 0 = 0 := by
    unfold R_c1
    rw [if_neg]
    intro a
    exact absurd a.2 (by show ¬ R_bits 0 < R_bits (nI 0); decide)
  have e1 : 2 ^ n = 2 ^ n - 1 + 1 := by omega
  rw [e1, z_it_0, e0]
  rfl
