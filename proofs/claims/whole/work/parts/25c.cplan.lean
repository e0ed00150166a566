/-! ===== THE CLASS: plan ===== -/
def m_137 (a k : Nat) : Bool := a == 137 || a == 138 || (a == 135 && k == 7)
/-- the class's rows of the plan -/
def k_B (I : Ii) (r : Nat → Int32) (n m t : Nat) (b c : Nat → Nat) : Prop := a_ok r n ∧ m ≤ 10 ∧ I 3 0 = nI n ∧ I 3 5 = nI m ∧ (∀ j, j < n → I 29 j = nI (a_s r j)) ∧ (∀ k, k < m → I 136 k = nI (b_a r n k)) ∧ (∀ k, k < m → I 137 k = z_o n (b k)) ∧ (∀ j, j < n → I 138 j = nI (c j)) ∧ I 135 7 = nI t ∧ t < 1024
theorem k_B_t {I : Ii} {r : Nat → Int32} {n m t : Nat} {b c : Nat → Nat} (h : k_B I r n m t b c) (t' : Nat) (ht : t' < 1024) : k_B (q_w I 135 7 (nI t')) r n m t' b c := by
  obtain ⟨h1, h2, h3, h4, h5, h6, h7, h8, h9, h10⟩ := h
  refine ⟨h1, h2, ?_, ?_, ?_, ?_, ?_, ?_, z_w_s _ _ _ _, ht⟩ <;> rw [z_w_a _ _ _ _ _ (by decide)] <;> assumption
/-- no jar: 't'' what was tried -/
def k_No (r : Nat → Int32) (n m : Nat) (b c : Nat → Nat) (t t' : Nat) : Prop := (∀ j, t.testBit j = true → t'.testBit j = true) ∧ ∀ j, j < n → t'.testBit j = true → t.testBit j = false → ¬ c j < a_s r j ∧ ∀ o, o < m → b o = j → ∀ i, i < n → b_A r n o i = true → t'.testBit i = true
def k_FS (X : Sx) (d : Nat) (T : Tt) (r : Nat → Int32) (n m u : Nat) : Prop := ∀ (t k dp : Nat) (b c : Nat → Nat) (I : Ii), k_B I r n m t b c → b_P (b_A r n) (a_s r) n m b c → k < m → (¬ b k < n ∨ t.testBit (b k) = true) → dp + a_c (fun j => !t.testBit j) 0 n ≤ n → a_c (fun j => !t.testBit j) 0 n ≤ u → (∃ J b' c' t', c_X2_findAnswerer_135 X (d + 2 * u + 2) (nI k) (nI dp) I T = z_r 1 J T ∧ z_fr m_137 I J ∧ k_B J r n m t' b' c' ∧ b_S (b_A r n) (a_s r) n m b k (fun i => t.testBit i) b' c') ∨ ∃ J t', c_X2_findAnswerer_135 X (d + 2 * u + 2) (nI k) (nI dp) I T = z_r 0 J T ∧ z_fr m_137 I J ∧ k_B J r n m t' b c ∧ (∀ j, j < n → b_A r n k j = true → t'.testBit j = true) ∧ k_No r n m b c t t'
theorem k_findsS (X : Sx) (d : Nat) (T : Tt) (r : Nat → Int32) (n m : Nat) (u : Nat) (ih : ∀ u', u' + 1 = u → k_FS X d T r n m u') : k_FS X d T r n m u := by
  intro t k dp b c I hB hP hk hbk hdp hu
  have hn := hB.1.2.1
  have hm := hB.2.1
  have hak := b_a_n r n k hn
  have key : ∀ q j (o4 : Option Value) (t1 : Nat) (I1 : Ii), j + q = n → z_fr m_137 I I1 → k_B I1 r n m t1 b c → k_No r n m b c t t1 → (∀ i, i < j → b_A r n k i = true → t1.testBit i = true) → (∃ J b' c' t', c_X2_findAnswerer_135_7 X (d + 2 * u + 1) (nI k) (nI dp) (nI j) o4 I1 T = z_r 1 J T ∧ z_fr m_137 I J ∧ k_B J r n m t' b' c' ∧ b_S (b_A r n) (a_s r) n m b k (fun i => t.testBit i) b' c') ∨ ∃ J t', c_X2_findAnswerer_135_7 X (d + 2 * u + 1) (nI k) (nI dp) (nI j) o4 I1 T = z_r 0 J T ∧ z_fr m_137 I J ∧ k_B J r n m t' b c ∧ (∀ j, j < n → b_A r n k j = true → t'.testBit j = true) ∧ k_No r n m b c t t' := by
    intro q
    induction q with
    | zero =>
      intro j o4 t1 I1 hj hf hB1 hno hall
      refine .inr ⟨I1, t1, ?_, hf, hB1, fun i hi => hall i (by omega), hno⟩
      rw [e_X2_findAnswerer_135_7, hB1.2.2.1, if_neg (nI_nlt (by omega) (by omega))]
    | succ q ihq =>
      intro j o4 t1 I1 hj hf hB1 hno hall
      obtain ⟨h1, h2, h3, h4, h5, h6, h7, h8, h9, h10⟩ := id hB1
      have e136 := h6 k hk
      have s1 : (1 : Int32) <<< (nI j &&& 31) = nI (2 ^ j) := z_shl1 j (by omega)
      have a1 := a_and (b_a r n k) j (by omega)
      have a2 := a_and t1 j (by omega)
      rw [s1] at a1 a2
      have skip : (∀ i, i < j + 1 → b_A r n k i = true → t1.testBit i = true) → c_X2_findAnswerer_135_7 X (d + 2 * u + 1) (nI k) (nI dp) (nI j) o4 I1 T = c_X2_findAnswerer_135_7 X (d + 2 * u + 1) (nI k) (nI dp) (nI (j + 1)) (some (.int (nI (2 ^ j)))) I1 T → (∃ J b' c' t', c_X2_findAnswerer_135_7 X (d + 2 * u + 1) (nI k) (nI dp) (nI j) o4 I1 T = z_r 1 J T ∧ z_fr m_137 I J ∧ k_B J r n m t' b' c' ∧ b_S (b_A r n) (a_s r) n m b k (fun i => t.testBit i) b' c') ∨ ∃ J t', c_X2_findAnswerer_135_7 X (d + 2 * u + 1) (nI k) (nI dp) (nI j) o4 I1 T = z_r 0 J T ∧ z_fr m_137 I J ∧ k_B J r n m t' b c ∧ (∀ j, j < n → b_A r n k j = true → t'.testBit j = true) ∧ k_No r n m b c t t' := by
        intro ha st
        rw [st]
        exact ihq (j + 1) _ t1 I1 (by omega) hf hB1 hno ha
      cases c1 : (b_a r n k).testBit j with
      | false =>
        rw [c1] at a1
        refine skip (fun i hi ha => ?_) ?_
        · by_cases e : i = j
          · subst e; unfold b_A at ha; rw [c1] at ha; cases ha
          · exact hall i (by omega) ha
        · rw [e_X2_findAnswerer_135_7]
          simp (disch := omega) only [e_X2_findAnswerer_135_46, h3, e136, s1, a1, q_bd_l, z_ltT, z_ltF, z_eqT, z_eqF, z_ltlT, z_ltlF, z_lltT, z_lltF, z_eqlT, z_eqlF, z_in, z_k7, z_cl, z_lneg, z_llT, z_llF, z_s1, z_nI_cl, z_nlt0, z_ne_m1, z_b0, z_b1, z_la, z_al, z_lm, z_ml, z_nm, nI_add, pk_mul, ↓reduceIte, not_true_eq_false, not_false_eq_true, true_or, or_true, false_or, or_false, true_and, and_true, and_false, false_and, Classical.not_not, Nat.add_zero, z_01, z_em, z_bit_p, Nat.not_le, Nat.not_lt, reduceCtorEq, if_true, if_false, decide_true, decide_false, Bool.and_true, Bool.and_false, Bool.true_and, Bool.false_and, Bool.or_true, Bool.or_false, Bool.true_or, Bool.false_or, Bool.false_eq_true, ne_eq, Bool.not_true, Bool.not_false, decide_not]
      | true =>
        rw [c1] at a1
        cases c2 : t1.testBit j with
        | true =>
          rw [c2] at a2
          refine skip (fun i hi ha => ?_) ?_
          · by_cases e : i = j
            · subst e; exact c2
            · exact hall i (by omega) ha
          · rw [e_X2_findAnswerer_135_7]
            simp (disch := omega) only [e_X2_findAnswerer_135_46, h3, e136, s1, a1, h9, a2, q_bd_l, z_ltT, z_ltF, z_eqT, z_eqF, z_ltlT, z_ltlF, z_lltT, z_lltF, z_eqlT, z_eqlF, z_in, z_k7, z_cl, z_lneg, z_llT, z_llF, z_s1, z_nI_cl, z_nlt0, z_ne_m1, z_b0, z_b1, z_la, z_al, z_lm, z_ml, z_nm, nI_add, pk_mul, ↓reduceIte, not_true_eq_false, not_false_eq_true, true_or, or_true, false_or, or_false, true_and, and_true, and_false, false_and, Classical.not_not, Nat.add_zero, z_01, z_em, z_bit_p, Nat.not_le, Nat.not_lt, reduceCtorEq, if_true, if_false, decide_true, decide_false, Bool.and_true, Bool.and_false, Bool.true_and, Bool.false_and, Bool.or_true, Bool.or_false, Bool.true_or, Bool.false_or, Bool.false_eq_true, ne_eq, Bool.not_true, Bool.not_false, decide_not]
        | false =>
          rw [c2] at a2
          have htj : t.testBit j = false := Bool.eq_false_iff.mpr (fun h => by rw [hno.1 j h] at c2; cases c2)
          -- the jar is tried: is there room?
          have hor : nI t1 ||| nI (2 ^ j) = nI (t1 ||| 2 ^ j) := z_nor _ _
          have hto : t1 ||| 2 ^ j < 1024 := Nat.or_lt_two_pow (n := 10) h10 (Nat.pow_lt_pow_right (by decide) (by omega))
          have tb : ∀ i, (t1 ||| 2 ^ j).testBit i = (t1.testBit i || decide (j = i)) := fun i => by rw [Nat.testBit_or, Nat.testBit_two_pow]
          have hB2 := k_B_t hB1 (t1 ||| 2 ^ j) hto
          have hf2 : z_fr m_137 I (q_w I1 135 7 (nI (t1 ||| 2 ^ j))) := z_fr_w hf 135 7 _ rfl
          have st0 : c_X2_findAnswerer_135_7 X (d + 2 * u + 1) (nI k) (nI dp) (nI j) o4 I1 T = q_bd (c_X2_makeRoom_135 X (d + 2 * u + 1) (nI j) (nI dp) (q_w I1 135 7 (nI (t1 ||| 2 ^ j))) T) (fun v9 h' => q_res X q_sb q_pg (d + 2 * u + 1) cd_X2_findAnswerer 38 [some (.ref 135), some (.int (nI k)), some (.int (nI dp)), some (.int (nI j)), some (.int (nI (2 ^ j)))] (v9.toList ++ []) h') := by
            rw [e_X2_findAnswerer_135_7]
            simp (disch := omega) only [h3, e136, s1, a1, h9, a2, hor, q_bd_l, z_ltT, z_ltF, z_eqT, z_eqF, z_ltlT, z_ltlF, z_lltT, z_lltF, z_eqlT, z_eqlF, z_in, z_k7, z_cl, z_lneg, z_llT, z_llF, z_s1, z_nI_cl, z_nlt0, z_ne_m1, z_b0, z_b1, z_la, z_al, z_lm, z_ml, z_nm, nI_add, pk_mul, ↓reduceIte, not_true_eq_false, not_false_eq_true, true_or, or_true, false_or, or_false, true_and, and_true, and_false, false_and, Classical.not_not, Nat.add_zero, z_01, z_em, z_bit_p, Nat.not_le, Nat.not_lt, reduceCtorEq, if_true, if_false, decide_true, decide_false, Bool.and_true, Bool.and_false, Bool.true_and, Bool.false_and, Bool.or_true, Bool.or_false, Bool.true_or, Bool.false_or, Bool.false_eq_true, ne_eq, Bool.not_true, Bool.not_false, decide_not]
          have e138 := h8 j (by omega)
          have e29 := h5 j (by omega)
          have s20 := (h1.2.2.1 j (by omega)).2
          have ccs := hP.2.1 j (by omega)
          by_cases c3 : c j < a_s r j
          · refine .inl ⟨q_w (q_w (q_w I1 135 7 (nI (t1 ||| 2 ^ j))) 138 j (nI (c j + 1))) 137 k (nI j), a_u b k j, a_u c j (c j + 1), t1 ||| 2 ^ j, ?_, z_fr_w (z_fr_w hf2 138 _ _ rfl) 137 _ _ rfl, ?_, b_S1 hP hk (by omega) c1 c3⟩
            · rw [st0, e_X2_makeRoom_135]
              have w1 : (q_w I1 135 7 (nI (t1 ||| 2 ^ j))) 138 = I1 138 := z_w_a _ _ _ _ _ (by decide)
              have w2 : (q_w I1 135 7 (nI (t1 ||| 2 ^ j))) 29 = I1 29 := z_w_a _ _ _ _ _ (by decide)
              simp (disch := omega) only [e_X2_findAnswerer_135_38, k_X2_findAnswerer_135_38, w1, w2, e138, e29, q_bd_l, z_ltT, z_ltF, z_eqT, z_eqF, z_ltlT, z_ltlF, z_lltT, z_lltF, z_eqlT, z_eqlF, z_in, z_k7, z_cl, z_lneg, z_llT, z_llF, z_s1, z_nI_cl, z_nlt0, z_ne_m1, z_b0, z_b1, z_la, z_al, z_lm, z_ml, z_nm, nI_add, pk_mul, ↓reduceIte, not_true_eq_false, not_false_eq_true, true_or, or_true, false_or, or_false, true_and, and_true, and_false, false_and, Classical.not_not, Nat.add_zero, z_01, z_em, z_bit_p, Nat.not_le, Nat.not_lt, reduceCtorEq, if_true, if_false]
            · obtain ⟨y1, y2, y3, y4, y5, y6, y7, y8, y9, y10⟩ := hB2
              refine ⟨y1, y2, ?_, ?_, ?_, ?_, ?_, ?_, ?_, hto⟩
              · rw [z_w_a _ _ _ _ _ (by decide), z_w_a _ _ _ _ _ (by decide)]; exact y3
              · rw [z_w_a _ _ _ _ _ (by decide), z_w_a _ _ _ _ _ (by decide)]; exact y4
              · rw [z_w_a _ _ _ _ _ (by decide), z_w_a _ _ _ _ _ (by decide)]; exact y5
              · rw [z_w_a _ _ _ _ _ (by decide), z_w_a _ _ _ _ _ (by decide)]; exact y6
              · intro i hi
                rw [z_w]
                unfold a_u
                by_cases e : i = k
                · rw [if_pos ⟨rfl, e⟩, if_pos e, z_o, if_pos (by omega)]
                · rw [if_neg (fun c => e c.2), if_neg e, z_w_a _ _ _ _ _ (by decide)]; exact y7 i hi
              · intro i hi
                rw [z_w_a _ _ _ _ _ (by decide), z_w]
                unfold a_u
                by_cases e : i = j
                · rw [if_pos ⟨rfl, e⟩, if_pos e]
                · rw [if_neg (fun c => e c.2), if_neg e]; exact y8 i hi
              · rw [z_w_a _ _ _ _ _ (by decide), z_w_a _ _ _ _ _ (by decide)]; exact y9
          · -- is one of its needs to go elsewhere?
            have room : ∀ q2 o (t2 : Nat) (I2 : Ii), o + q2 = m → z_fr m_137 I I2 → k_B I2 r n m t2 b c → (∀ i, (t1 ||| 2 ^ j).testBit i = true → t2.testBit i = true) → (∀ i, i < n → t2.testBit i = true → (t1 ||| 2 ^ j).testBit i = false → ¬ c i < a_s r i ∧ ∀ o, o < m → b o = i → ∀ x, x < n → b_A r n o x = true → t2.testBit x = true) → (∀ o', o' < o → b o' = j → ∀ x, x < n → b_A r n o' x = true → t2.testBit x = true) → (∃ J b' c' t', c_X2_makeRoom_135_22 X (d + 2 * u) (nI j) (nI dp) (nI o) I2 T = z_r 1 J T ∧ z_fr m_137 I J ∧ k_B J r n m t' b' c' ∧ b_S (b_A r n) (a_s r) n m b k (fun i => t.testBit i) (a_u b' k j) c') ∨ ∃ J t', c_X2_makeRoom_135_22 X (d + 2 * u) (nI j) (nI dp) (nI o) I2 T = z_r 0 J T ∧ z_fr m_137 I J ∧ k_B J r n m t' b c ∧ (∀ i, (t1 ||| 2 ^ j).testBit i = true → t'.testBit i = true) ∧ (∀ i, i < n → t'.testBit i = true → (t1 ||| 2 ^ j).testBit i = false → ¬ c i < a_s r i ∧ ∀ o, o < m → b o = i → ∀ x, x < n → b_A r n o x = true → t'.testBit x = true) ∧ ∀ o', o' < m → b o' = j → ∀ x, x < n → b_A r n o' x = true → t'.testBit x = true := by
              intro q2
              induction q2 with
              | zero =>
                intro o t2 I2 ho hf3 hB3 p1 p2 p3
                refine .inr ⟨I2, t2, ?_, hf3, hB3, p1, p2, fun o' ho' => p3 o' (by omega)⟩
                rw [e_X2_makeRoom_135_22, hB3.2.2.2.1, if_neg (nI_nlt (by omega) (by omega))]
              | succ q2 ih2 =>
                intro o t2 I2 ho hf3 hB3 p1 p2 p3
                obtain ⟨y1, y2, y3, y4, y5, y6, y7, y8, y9, y10⟩ := id hB3
                have e137 := y7 o (by omega)
                have hzo : (z_o n (b o) = nI j) = (b o = j) := z_o_eq hn (by omega)
                by_cases c4 : b o = j
                · have hz1 : (z_o n (b o) = nI j) = True := by rw [hzo]; exact eq_true c4
                  have hcnt : a_c (fun i => !t2.testBit i) 0 n + 1 ≤ a_c (fun i => !t.testBit i) 0 n := by
                    rw [a_c_p (P := fun i => !t.testBit i) (Q := fun i => !t.testBit i && !decide (i = j)) (x := j) (by omega) (by omega) (by simp [htj]) (by simp) (fun i _ _ hi => by simp [hi])]
                    refine Nat.add_le_add_right (a_c_le (fun i _ _ hi => ?_)) 1
                    simp only [Bool.not_eq_true'] at hi
                    have hne : i ≠ j := fun e => by
                      have := p1 i (by rw [tb, e]; simp)
                      rw [hi] at this; cases this
                    have hti : t.testBit i = false := Bool.eq_false_iff.mpr (fun h => by
                      have := p1 i (by rw [tb, hno.1 i h]; rfl)
                      rw [hi] at this; cases this)
                    simp [hti, hne]
                  obtain ⟨u', hu'⟩ : ∃ u', u' + 1 = u := ⟨u - 1, by omega⟩
                  have nest := ih u' hu' t2 o (dp + 1) b c I2 hB3 hP (by omega) (.inr (by rw [c4]; exact p1 j (by rw [tb]; simp))) (by omega) (by omega)
                  rw [show d + 2 * u' + 2 = d + 2 * u from by omega] at nest
                  rcases nest with ⟨J, b', c', t', x1, x2, x3, x4⟩ | ⟨J, t', x1, x2, x3, x4, x5⟩
                  · refine .inl ⟨J, b', c', t', ?_, z_fr_t hf3 x2, x3, b_S2 hk (by omega) c1 hbk c4 htj (fun i hi => p1 i (by rw [tb, hno.1 i hi]; rfl)) x4⟩
                    rw [e_X2_makeRoom_135_22]
                    simp (disch := omega) only [e_X2_makeRoom_135_39, k_X2_makeRoom_135_39, y4, e137, hz1, x1, q_bd_l, z_ltT, z_ltF, z_eqT, z_eqF, z_ltlT, z_ltlF, z_lltT, z_lltF, z_eqlT, z_eqlF, z_in, z_k7, z_cl, z_lneg, z_llT, z_llF, z_s1, z_nI_cl, z_nlt0, z_ne_m1, z_b0, z_b1, z_la, z_al, z_lm, z_ml, z_nm, nI_add, pk_mul, ↓reduceIte, not_true_eq_false, not_false_eq_true, true_or, or_true, false_or, or_false, true_and, and_true, and_false, false_and, Classical.not_not, Nat.add_zero, z_01, z_em, z_bit_p, Nat.not_le, Nat.not_lt, reduceCtorEq, if_true, if_false]
                  · have st : c_X2_makeRoom_135_22 X (d + 2 * u) (nI j) (nI dp) (nI o) I2 T = c_X2_makeRoom_135_22 X (d + 2 * u) (nI j) (nI dp) (nI (o + 1)) J T := by
                      rw [e_X2_makeRoom_135_22]
                      simp (disch := omega) only [e_X2_makeRoom_135_39, k_X2_makeRoom_135_39, e_X2_makeRoom_135_42, y4, e137, hz1, x1, q_bd_l, z_ltT, z_ltF, z_eqT, z_eqF, z_ltlT, z_ltlF, z_lltT, z_lltF, z_eqlT, z_eqlF, z_in, z_k7, z_cl, z_lneg, z_llT, z_llF, z_s1, z_nI_cl, z_nlt0, z_ne_m1, z_b0, z_b1, z_la, z_al, z_lm, z_ml, z_nm, nI_add, pk_mul, ↓reduceIte, not_true_eq_false, not_false_eq_true, true_or, or_true, false_or, or_false, true_and, and_true, and_false, false_and, Classical.not_not, Nat.add_zero, z_01, z_em, z_bit_p, Nat.not_le, Nat.not_lt, reduceCtorEq, if_true, if_false]
                    rw [st]
                    refine ih2 (o + 1) t' J (by omega) (z_fr_t hf3 x2) x3 (fun i hi => x5.1 i (p1 i hi)) (fun i hi h11 h12 => ?_) (fun o' ho' hb x hx ha => ?_)
                    · cases h13 : t2.testBit i with
                      | true =>
                        obtain ⟨w1, w2⟩ := p2 i hi h13 h12
                        exact ⟨w1, fun o' ho' hb x hx ha => x5.1 x (w2 o' ho' hb x hx ha)⟩
                      | false => exact x5.2 i hi h11 h13
                    · by_cases e : o' = o
                      · subst e; exact x4 x hx ha
                      · exact x5.1 x (p3 o' (by omega) hb x hx ha)
                · have hz1 : (z_o n (b o) = nI j) = False := by rw [hzo]; exact eq_false c4
                  have st : c_X2_makeRoom_135_22 X (d + 2 * u) (nI j) (nI dp) (nI o) I2 T = c_X2_makeRoom_135_22 X (d + 2 * u) (nI j) (nI dp) (nI (o + 1)) I2 T := by
                    rw [e_X2_makeRoom_135_22]
                    simp (disch := omega) only [e_X2_makeRoom_135_42, y4, e137, hz1, q_bd_l, z_ltT, z_ltF, z_eqT, z_eqF, z_ltlT, z_ltlF, z_lltT, z_lltF, z_eqlT, z_eqlF, z_in, z_k7, z_cl, z_lneg, z_llT, z_llF, z_s1, z_nI_cl, z_nlt0, z_ne_m1, z_b0, z_b1, z_la, z_al, z_lm, z_ml, z_nm, nI_add, pk_mul, ↓reduceIte, not_true_eq_false, not_false_eq_true, true_or, or_true, false_or, or_false, true_and, and_true, and_false, false_and, Classical.not_not, Nat.add_zero, z_01, z_em, z_bit_p, Nat.not_le, Nat.not_lt, reduceCtorEq, if_true, if_false]
                  rw [st]
                  refine ih2 (o + 1) t2 I2 (by omega) hf3 hB3 p1 p2 (fun o' ho' hb x hx ha => ?_)
                  by_cases e : o' = o
                  · subst e; exact (c4 hb).elim
                  · exact p3 o' (by omega) hb x hx ha
            have w1 : (q_w I1 135 7 (nI (t1 ||| 2 ^ j))) 138 = I1 138 := z_w_a _ _ _ _ _ (by decide)
            have w2 : (q_w I1 135 7 (nI (t1 ||| 2 ^ j))) 29 = I1 29 := z_w_a _ _ _ _ _ (by decide)
            have st1 : c_X2_makeRoom_135 X (d + 2 * u + 1) (nI j) (nI dp) (q_w I1 135 7 (nI (t1 ||| 2 ^ j))) T = c_X2_makeRoom_135_22 X (d + 2 * u) (nI j) (nI dp) (nI 0) (q_w I1 135 7 (nI (t1 ||| 2 ^ j))) T := by
              rw [e_X2_makeRoom_135]
              simp (disch := omega) only [w1, w2, e138, e29, q_bd_l, z_ltT, z_ltF, z_eqT, z_eqF, z_ltlT, z_ltlF, z_lltT, z_lltF, z_eqlT, z_eqlF, z_in, z_k7, z_cl, z_lneg, z_llT, z_llF, z_s1, z_nI_cl, z_nlt0, z_ne_m1, z_b0, z_b1, z_la, z_al, z_lm, z_ml, z_nm, nI_add, pk_mul, ↓reduceIte, not_true_eq_false, not_false_eq_true, true_or, or_true, false_or, or_false, true_and, and_true, and_false, false_and, Classical.not_not, Nat.add_zero, z_01, z_em, z_bit_p, Nat.not_le, Nat.not_lt, reduceCtorEq, if_true, if_false]
              rfl
            rcases room m 0 (t1 ||| 2 ^ j) _ (Nat.zero_add _) hf2 hB2 (fun i hi => hi) (fun i hi h11 h12 => by rw [h11] at h12; cases h12) (fun o' ho' => by omega) with ⟨J, b', c', t', x1, x2, x3, x4⟩ | ⟨J, t', x1, x2, x3, x4, x5, x6⟩
            · refine .inl ⟨q_w J 137 k (nI j), a_u b' k j, c', t', ?_, z_fr_w x2 137 _ _ rfl, ?_, x4⟩
              · rw [st0, st1, x1]
                simp (disch := omega) only [e_X2_findAnswerer_135_38, k_X2_findAnswerer_135_38, q_bd_l, z_ltT, z_ltF, z_eqT, z_eqF, z_ltlT, z_ltlF, z_lltT, z_lltF, z_eqlT, z_eqlF, z_in, z_k7, z_cl, z_lneg, z_llT, z_llF, z_s1, z_nI_cl, z_nlt0, z_ne_m1, z_b0, z_b1, z_la, z_al, z_lm, z_ml, z_nm, nI_add, pk_mul, ↓reduceIte, not_true_eq_false, not_false_eq_true, true_or, or_true, false_or, or_false, true_and, and_true, and_false, false_and, Classical.not_not, Nat.add_zero, z_01, z_em, z_bit_p, Nat.not_le, Nat.not_lt, reduceCtorEq, if_true, if_false]
              · obtain ⟨y1, y2, y3, y4, y5, y6, y7, y8, y9, y10⟩ := x3
                refine ⟨y1, y2, ?_, ?_, ?_, ?_, ?_, ?_, ?_, y10⟩
                · rw [z_w_a _ _ _ _ _ (by decide)]; exact y3
                · rw [z_w_a _ _ _ _ _ (by decide)]; exact y4
                · rw [z_w_a _ _ _ _ _ (by decide)]; exact y5
                · rw [z_w_a _ _ _ _ _ (by decide)]; exact y6
                · intro i hi
                  rw [z_w]
                  unfold a_u
                  by_cases e : i = k
                  · rw [if_pos ⟨rfl, e⟩, if_pos e, z_o, if_pos (by omega)]
                  · rw [if_neg (fun c => e c.2), if_neg e]; exact y7 i hi
                · rw [z_w_a _ _ _ _ _ (by decide)]; exact y8
                · rw [z_w_a _ _ _ _ _ (by decide)]; exact y9
            · have st : c_X2_findAnswerer_135_7 X (d + 2 * u + 1) (nI k) (nI dp) (nI j) o4 I1 T = c_X2_findAnswerer_135_7 X (d + 2 * u + 1) (nI k) (nI dp) (nI (j + 1)) (some (.int (nI (2 ^ j)))) J T := by
                rw [st0, st1, x1]
                simp (disch := omega) only [e_X2_findAnswerer_135_38, k_X2_findAnswerer_135_38, e_X2_findAnswerer_135_46, q_bd_l, z_ltT, z_ltF, z_eqT, z_eqF, z_ltlT, z_ltlF, z_lltT, z_lltF, z_eqlT, z_eqlF, z_in, z_k7, z_cl, z_lneg, z_llT, z_llF, z_s1, z_nI_cl, z_nlt0, z_ne_m1, z_b0, z_b1, z_la, z_al, z_lm, z_ml, z_nm, nI_add, pk_mul, ↓reduceIte, not_true_eq_false, not_false_eq_true, true_or, or_true, false_or, or_false, true_and, and_true, and_false, false_and, Classical.not_not, Nat.add_zero, z_01, z_em, z_bit_p, Nat.not_le, Nat.not_lt, reduceCtorEq, if_true, if_false]
              rw [st]
              have m1 : ∀ i, t1.testBit i = true → t'.testBit i = true := fun i hi => x4 i (by rw [tb, hi]; rfl)
              refine ihq (j + 1) _ t' J (by omega) x2 x3 ⟨fun i hi => m1 i (hno.1 i hi), fun i hi h11 h12 => ?_⟩ (fun i hi ha => ?_)
              · cases h13 : t1.testBit i with
                | true =>
                  obtain ⟨w1, w2⟩ := hno.2 i hi h13 h12
                  exact ⟨w1, fun o' ho' hb x hx ha => m1 x (w2 o' ho' hb x hx ha)⟩
                | false =>
                  by_cases e : j = i
                  · subst e; exact ⟨c3, x6⟩
                  · exact x5 i hi h11 (by rw [tb, h13]; simp [e])
              · by_cases e : i = j
                · subst e; exact x4 i (by rw [tb]; simp)
                · exact m1 i (hall i (by omega) ha)
  have hd10 : ¬ (10 : Int32) < nI dp := nI_nlt (a := 10) (by omega) (by omega)
  rw [e_X2_findAnswerer_135, if_neg hd10]
  exact key n 0 none t I (Nat.zero_add _) (z_fr_r _ _) hB ⟨fun _ h => h, fun j _ h1 h2 => by rw [h1] at h2; cases h2⟩ (fun i hi => by omega)
theorem k_findsT (X : Sx) (d : Nat) (T : Tt) (r : Nat → Int32) (n m : Nat) : ∀ u, k_FS X d T r n m u := by
  intro u
  induction u with
  | zero => exact k_findsS X d T r n m 0 (fun u' h => by omega)
  | succ u ih => exact k_findsS X d T r n m (u + 1) (fun u' h => by
      have : u' = u := by omega
      subst this; exact ih)
theorem b_v_c {P Q : Nat → Bool} : ∀ {n : Nat}, (∀ i, i < n → P i = Q i) → b_v P n = b_v Q n
  | 0, _ => rfl
  | n + 1, h => by
    show b_v P n + (if P n then 2 ^ n else 0) = b_v Q n + (if Q n then 2 ^ n else 0)
    rw [b_v_c (fun i hi => h i (by omega)), h n (by omega)]
theorem k_mostMet (X : Sx) (d : Nat) (I : Ii) (T : Tt) (r : Nat → Int32) (n m : Nat) (h : k_H27 I r n m) : ∃ J g, c_X2_mostMet_135 X (d + 24) I T = z_r (nI g) J T ∧ z_fr m_cs I J ∧ b_plan r n m g := by
  have ho := a_ok_of h.1
  have hn := ho.2.1
  have hm := h.1.2.2.2.1
  obtain ⟨J, j1, j2, j3⟩ := k_findAnswers X (d + 15) I T r n m h
  have hJ := k_H27_cs h j2
  have n3 := k_n3 hJ
  have n5 : J 3 5 = nI m := hJ.2.1.2.1.trans h.1.2.2.1
  have h29 : ∀ j, j < n → J 29 j = nI (a_s r j) := fun j hj => (hJ.2.2.1.2.2.2.2.2.1 j hj).trans (ho.2.2.1 j hj).1
  have h136 : ∀ k, k < m → J 136 k = nI (b_a r n k) := fun k hk => (j3 k hk).trans (b_a_n r n k hn).1
  have m2 : (2 : Nat) ^ m ≤ 1024 := b_1024 hm
  -- all is made empty
  obtain ⟨K, ⟨k1, k2⟩, k3⟩ := z_foldP (β := Unit) (σ := Ii) (fun k _ K => c_X2_mostMet_135_4 X (d + 23) (nI k) K T) (fun _ a => a) (fun k _ K => z_fr m_137 J K ∧ ∀ i, i < k → K 137 i = -1) m (by
    intro k _ K hk ⟨q1, q2⟩
    have e5 : K 3 5 = nI m := by rw [q1 3 5 rfl]; exact n5
    refine ⟨q_w K 137 k (-1), ⟨z_fr_w q1 137 _ _ rfl, fun i hi => ?_⟩, ?_⟩
    · rw [z_w]
      by_cases e : i = k
      · rw [if_pos ⟨rfl, e⟩]
      · rw [if_neg (fun c => e c.2)]; exact q2 i (by omega)
    · rw [e_X2_mostMet_135_4]
      simp (disch := omega) only [e5, q_bd_l, z_ltT, z_ltF, z_eqT, z_eqF, z_ltlT, z_ltlF, z_lltT, z_lltF, z_eqlT, z_eqlF, z_in, z_k7, z_cl, z_lneg, z_llT, z_llF, z_s1, z_nI_cl, z_nlt0, z_ne_m1, z_b0, z_b1, z_la, z_al, z_lm, z_ml, z_nm, nI_add, pk_mul, ↓reduceIte, not_true_eq_false, not_false_eq_true, true_or, or_true, false_or, or_false, true_and, and_true, and_false, false_and, Classical.not_not, Nat.add_zero, z_01, z_em, z_bit_p, Nat.not_le, Nat.not_lt, reduceCtorEq, if_true, if_false]) () J ⟨z_fr_r _ _, fun i hi => by omega⟩
  obtain ⟨L, ⟨l1, l2, l3⟩, l4⟩ := z_foldP (β := Unit) (σ := Ii) (fun k _ L => c_X2_mostMet_135_18 X (d + 23) (nI k) L T) (fun _ a => a) (fun k _ L => z_fr m_137 J L ∧ (∀ i, i < m → L 137 i = -1) ∧ ∀ i, i < k → L 138 i = nI 0) n (by
    intro k _ L hk ⟨q1, q2, q3⟩
    have e3 : L 3 0 = nI n := by rw [q1 3 0 rfl]; exact n3
    refine ⟨q_w L 138 k 0, ⟨z_fr_w q1 138 _ _ rfl, fun i hi => by rw [z_w_a _ _ _ _ _ (by decide)]; exact q2 i hi, fun i hi => ?_⟩, ?_⟩
    · rw [z_w]
      by_cases e : i = k
      · rw [if_pos ⟨rfl, e⟩]; rfl
      · rw [if_neg (fun c => e c.2)]; exact q3 i (by omega)
    · rw [e_X2_mostMet_135_18]
      simp (disch := omega) only [e3, q_bd_l, z_ltT, z_ltF, z_eqT, z_eqF, z_ltlT, z_ltlF, z_lltT, z_lltF, z_eqlT, z_eqlF, z_in, z_k7, z_cl, z_lneg, z_llT, z_llF, z_s1, z_nI_cl, z_nlt0, z_ne_m1, z_b0, z_b1, z_la, z_al, z_lm, z_ml, z_nm, nI_add, pk_mul, ↓reduceIte, not_true_eq_false, not_false_eq_true, true_or, or_true, false_or, or_false, true_and, and_true, and_false, false_and, Classical.not_not, Nat.add_zero, z_01, z_em, z_bit_p, Nat.not_le, Nat.not_lt, reduceCtorEq, if_true, if_false]) () K ⟨k1, k2, fun i hi => by omega⟩
  have cs : ∀ {M : Ii}, z_fr m_137 J M → z_fr m_cs I M := fun hf => z_fr_t j2 (z_fr_m hf (fun a k h => by
    simp [m_137] at h
    rcases h with (h | h) | h <;> simp [m_cs, h]))
  have key : ∀ q k (b c : Nat → Nat) (C : Nat → Bool) (M : Ii), k + q = m → z_fr m_137 J M → (∀ i, i < m → M 137 i = z_o n (b i)) → (∀ j, j < n → M 138 j = nI (c j)) → b_P (b_A r n) (a_s r) n m b c → (∀ o, k ≤ o → o < m → ¬ b o < n) → (∀ j, j < n → C j = true → b_cl (b_A r n) (a_s r) n m b C j) → (∀ o, o < k → ¬ b o < n → ∀ j, j < n → b_A r n o j = true → C j = true) → (∀ x, x < 2 ^ m → b_M (b_A r n) (a_s r) n m (fun k => x.testBit k) → ∀ i, i ≤ k → a_c (fun i => x.testBit i) 0 i ≤ a_c (b_G n b) 0 i) → ∃ N g, c_X2_mostMet_135_34 X (d + 23) (nI (b_v (b_G n b) k)) (nI k) M T = z_r (nI g) N T ∧ z_fr m_137 J N ∧ b_plan r n m g := by
    intro q
    induction q with
    | zero =>
      intro k b c C M hk hf p1 p2 hP p3 p4 p5 p6
      have hkm : k = m := by omega
      subst hkm
      have e5 : M 3 5 = nI k := by rw [hf 3 5 rfl]; exact n5
      have tb : ∀ i, i < k → (b_v (b_G n b) k).testBit i = b_G n b i := fun i hi => by rw [b_v_t]; simp [hi]
      refine ⟨M, b_v (b_G n b) k, ?_, hf, b_v_lt _ _, b_M_m (b_V_M (b_P_V hP)) (fun o ho hh => by rw [tb o ho] at hh; exact hh), fun x hx hM i hi => ?_⟩
      · rw [e_X2_mostMet_135_34, e5, if_neg (nI_nlt (Nat.le_refl _) (by omega))]
      · rw [a_c_c (P := fun i => (b_v (b_G n b) k).testBit i) (Q := b_G n b) (fun o _ ho => tb o (by omega))]
        exact p6 x hx hM i hi
    | succ q ih =>
      intro k b c C M hk hf p1 p2 hP p3 p4 p5 p6
      have e5 : M 3 5 = nI m := by rw [hf 3 5 rfl]; exact n5
      have hbk := p3 k (Nat.le_refl _) (by omega)
      have f0 : z_fr m_137 J (q_w M 135 7 (nI 0)) := z_fr_w hf 135 7 _ rfl
      have B0 : k_B (q_w M 135 7 (nI 0)) r n m 0 b c := ⟨ho, hm, by rw [f0 3 0 rfl]; exact n3, by rw [f0 3 5 rfl]; exact n5, fun j hj => by rw [f0 29 j rfl]; exact h29 j hj, fun i hi => by rw [f0 136 i rfl]; exact h136 i hi, fun i hi => by rw [z_w_a _ _ _ _ _ (by decide)]; exact p1 i hi, fun i hi => by rw [z_w_a _ _ _ _ _ (by decide)]; exact p2 i hi, z_w_s _ _ _ _, by omega⟩
      have z0 : ∀ i, (0 : Nat).testBit i = false := fun i => Nat.zero_testBit i
      have F := k_findsT X (d + 1) T r n m 10 0 k 0 b c _ B0 hP (by omega) (.inl hbk) (by rw [Nat.zero_add]; exact a_c_k) (Nat.le_trans a_c_k hn)
      have e9 : d + 1 + 2 * 10 + 2 = d + 23 := by omega
      rw [e9] at F
      rcases F with ⟨N, b', c', t', x1, x2, x3, x4⟩ | ⟨N, t', x1, x2, x3, x4, x5⟩
      · obtain ⟨y1, y2, y3, y4⟩ := b_S_P hbk x4
        have iff : ∀ o, o < m → o ≠ k → (b' o < n ↔ b o < n) := fun o ho hne => by
          by_cases e : b o < n
          · exact ⟨fun _ => e, fun _ => y4 o ho hne e⟩
          · rw [y3 o ho hne e]
        obtain ⟨s1, s2⟩ := b_stay (b_P_V y1) (fun o ho hb => by
          by_cases e : o = k
          · subst e; exact y2
          · exact y4 o ho e hb) p4
        have gc : ∀ i, i < k → b_G n b' i = b_G n b i := fun i hi => by
          unfold b_G
          exact decide_eq_decide.mpr (iff i (by omega) (by omega))
        have p5' : ∀ o, o < k + 1 → ¬ b' o < n → ∀ j, j < n → b_A r n o j = true → C j = true := fun o ho hb => by
          have hne : o ≠ k := fun e => by rw [e] at hb; exact hb y2
          exact p5 o (by omega) (fun h => hb ((iff o (by omega) hne).mpr h))
        have p3' : ∀ o, k + 1 ≤ o → o < m → ¬ b' o < n := fun o h1 h2 hb => p3 o (by omega) h2 ((iff o h2 (by omega)).mp hb)
        have bv : b_v (b_G n b') (k + 1) = 2 ^ k + b_v (b_G n b) k := by
          show b_v (b_G n b') k + (if b_G n b' k = true then 2 ^ k else 0) = _
          rw [b_v_c gc, if_pos (by simp [b_G, y2])]; omega
        have nx := ih (k + 1) b' c' C N (by omega) (z_fr_t f0 x2) x3.2.2.2.2.2.2.1 x3.2.2.2.2.2.2.2.1 y1 p3' s1 p5' (fun x hx hM i hi => by
          by_cases e : i = k + 1
          · subst e; exact b_dom (by omega) p3' s1 p5' hM
          · rw [a_c_c (P := b_G n b') (Q := b_G n b) (fun o _ ho => gc o (by omega))]
            exact p6 x hx hM i (by omega))
        obtain ⟨O, g, w1, w2, w3⟩ := nx
        refine ⟨O, g, ?_, w2, w3⟩
        rw [← w1, bv]
        have hv := b_v_lt (b_G n b) k
        have sh : (1 : Int32) <<< (nI k &&& 31) = nI (2 ^ k) := z_shl1 k (by omega)
        have eo : nI (b_v (b_G n b) k) ||| nI (2 ^ k) = nI (2 ^ k + b_v (b_G n b) k) := by
          rw [z_nor, Nat.or_comm, ← Nat.mul_one (2 ^ k), Nat.two_pow_add_eq_or_of_lt hv]
        have x1' : c_X2_findAnswerer_135 X (d + 23) (nI k) 0 (q_w M 135 7 0) T = z_r 1 N T := x1
        rw [e_X2_mostMet_135_34]
        simp (disch := omega) only [e_X2_mostMet_135_2, k_X2_mostMet_135_2, e_X2_mostMet_135_47, k_X2_mostMet_135_47, e_X2_mostMet_135_53, e5, x1', sh, eo, q_bd_l, z_ltT, z_ltF, z_eqT, z_eqF, z_ltlT, z_ltlF, z_lltT, z_lltF, z_eqlT, z_eqlF, z_in, z_k7, z_cl, z_lneg, z_llT, z_llF, z_s1, z_nI_cl, z_nlt0, z_ne_m1, z_b0, z_b1, z_la, z_al, z_lm, z_ml, z_nm, nI_add, pk_mul, ↓reduceIte, not_true_eq_false, not_false_eq_true, true_or, or_true, false_or, or_false, true_and, and_true, and_false, false_and, Classical.not_not, Nat.add_zero, z_01, z_em, z_bit_p, Nat.not_le, Nat.not_lt, reduceCtorEq, if_true, if_false]
      · have x5' : b_X (b_A r n) (a_s r) n m b c (fun _ => false) (fun i => t'.testBit i) := fun j hj hc => ⟨(x5.2 j hj hc (z0 j)).1, fun o ho hb i hi ha => .inr ((x5.2 j hj hc (z0 j)).2 o ho hb i hi ha)⟩
        have cl := b_X_cl hP x5'
        have p4' : ∀ j, j < n → (C j || t'.testBit j) = true → b_cl (b_A r n) (a_s r) n m b (fun j => C j || t'.testBit j) j := fun j hj hc => by
          simp only [Bool.or_eq_true] at hc
          rcases hc with hc | hc
          · exact ⟨(p4 j hj hc).1, fun o ho hb i hi ha => by have := (p4 j hj hc).2 o ho hb i hi ha; show (C i || t'.testBit i) = true; rw [this]; rfl⟩
          · exact ⟨(cl j hj hc).1, fun o ho hb i hi ha => by have h9 : t'.testBit i = true := (cl j hj hc).2 o ho hb i hi ha; show (C i || t'.testBit i) = true; rw [h9]; simp⟩
        have p5' : ∀ o, o < k + 1 → ¬ b o < n → ∀ j, j < n → b_A r n o j = true → (C j || t'.testBit j) = true := fun o ho hb j hj ha => by
          by_cases e : o = k
          · subst e; rw [x4 j hj ha]; simp
          · rw [p5 o (by omega) hb j hj ha]; rfl
        have p3' : ∀ o, k + 1 ≤ o → o < m → ¬ b o < n := fun o h1 h2 => p3 o (by omega) h2
        have bv : b_v (b_G n b) (k + 1) = b_v (b_G n b) k := by
          show b_v (b_G n b) k + (if b_G n b k = true then 2 ^ k else 0) = _
          rw [if_neg (by simp [b_G, hbk])]; rfl
        have nx := ih (k + 1) b c (fun j => C j || t'.testBit j) N (by omega) (z_fr_t f0 x2) x3.2.2.2.2.2.2.1 x3.2.2.2.2.2.2.2.1 hP p3' p4' p5' (fun x hx hM i hi => by
          by_cases e : i = k + 1
          · subst e; exact b_dom (by omega) p3' p4' p5' hM
          · exact p6 x hx hM i (by omega))
        obtain ⟨O, g, w1, w2, w3⟩ := nx
        refine ⟨O, g, ?_, w2, w3⟩
        rw [← w1, bv]
        have x1' : c_X2_findAnswerer_135 X (d + 23) (nI k) 0 (q_w M 135 7 0) T = z_r 0 N T := x1
        have eo : nI (b_v (b_G n b) k) ||| 0 = nI (b_v (b_G n b) k) := by
          have := z_nor (b_v (b_G n b) k) 0
          rw [Nat.or_zero] at this
          exact this
        rw [e_X2_mostMet_135_34]
        simp (disch := omega) only [e_X2_mostMet_135_2, k_X2_mostMet_135_2, e_X2_mostMet_135_47, k_X2_mostMet_135_47, e_X2_mostMet_135_53, e5, x1', eo, q_bd_l, z_ltT, z_ltF, z_eqT, z_eqF, z_ltlT, z_ltlF, z_lltT, z_lltF, z_eqlT, z_eqlF, z_in, z_k7, z_cl, z_lneg, z_llT, z_llF, z_s1, z_nI_cl, z_nlt0, z_ne_m1, z_b0, z_b1, z_la, z_al, z_lm, z_ml, z_nm, nI_add, pk_mul, ↓reduceIte, not_true_eq_false, not_false_eq_true, true_or, or_true, false_or, or_false, true_and, and_true, and_false, false_and, Classical.not_not, Nat.add_zero, z_01, z_em, z_bit_p, Nat.not_le, Nat.not_lt, reduceCtorEq, if_true, if_false]
  have P0 : b_P (b_A r n) (a_s r) n m (fun _ => n) (fun _ => 0) := ⟨fun j hj => (a_c_0 (fun i _ _ => by simp; omega)).symm, fun j hj => Nat.zero_le _, fun o ho hb => absurd hb (Nat.lt_irrefl n)⟩
  obtain ⟨N, g, w1, w2, w3⟩ := key m 0 (fun _ => n) (fun _ => 0) (fun _ => false) L (Nat.zero_add _) l1 (fun i hi => by rw [l2 i hi, z_o, if_neg (Nat.lt_irrefl n)]) (fun j hj => l3 j hj) P0 (fun o _ _ => Nat.lt_irrefl n) (fun j hj hc => by cases hc) (fun o ho => by omega) (fun x hx hM i hi => by
    have : i = 0 := by omega
    subst this
    exact Nat.le_refl _)
  refine ⟨N, g, ?_, cs w2, w3⟩
  have e5 : K 3 5 = nI m := by rw [k1 3 5 rfl]; exact n5
  have e3 : L 3 0 = nI n := by rw [l1 3 0 rfl]; exact n3
  rw [e_X2_mostMet_135, j1]
  simp (disch := omega) only [e_X2_mostMet_135_2, k_X2_mostMet_135_2, q_bd_l, z_ltT, z_ltF, z_eqT, z_eqF, z_ltlT, z_ltlF, z_lltT, z_lltF, z_eqlT, z_eqlF, z_in, z_k7, z_cl, z_lneg, z_llT, z_llF, z_s1, z_nI_cl, z_nlt0, z_ne_m1, z_b0, z_b1, z_la, z_al, z_lm, z_ml, z_nm, nI_add, pk_mul, ↓reduceIte, not_true_eq_false, not_false_eq_true, true_or, or_true, false_or, or_false, true_and, and_true, and_false, false_and, Classical.not_not, Nat.add_zero, z_01, z_em, z_bit_p, Nat.not_le, Nat.not_lt, reduceCtorEq, if_true, if_false]
  refine (show c_X2_mostMet_135_4 X (d + 23) (nI 0) J T = _ from k3).trans ?_
  rw [e_X2_mostMet_135_4, e5, if_neg (nI_nlt (Nat.le_refl _) (by omega))]
  refine (show c_X2_mostMet_135_18 X (d + 23) (nI 0) K T = _ from l4).trans ?_
  rw [e_X2_mostMet_135_18, e3, if_neg (nI_nlt (Nat.le_refl _) (by omega)), ← w1]
  rfl
theorem k_Xplan (X : Sx) (d : Nat) (I : Ii) (T : Tt) (r : Nat → Int32) (n m : Nat) (h : k_H27 I r n m) : ∃ J g, c_X11_plan_0 X (d + 25) I T = z_r (nI g) J T ∧ z_fr m_cs I J ∧ b_plan r n m g := by
  obtain ⟨J, g, h1, h2, h3⟩ := k_mostMet X d I T r n m h
  refine ⟨J, g, ?_, h2, h3⟩
  rw [e_X11_plan_0, h1]
  simp (disch := omega) only [e_X11_plan_0_3, k_X11_plan_0_3, q_bd_l, z_ltT, z_ltF, z_eqT, z_eqF, z_ltlT, z_ltlF, z_lltT, z_lltF, z_eqlT, z_eqlF, z_in, z_k7, z_cl, z_lneg, z_llT, z_llF, z_s1, z_nI_cl, z_nlt0, z_ne_m1, z_b0, z_b1, z_la, z_al, z_lm, z_ml, z_nm, nI_add, pk_mul, ↓reduceIte, not_true_eq_false, not_false_eq_true, true_or, or_true, false_or, or_false, true_and, and_true, and_false, false_and, Classical.not_not, Nat.add_zero, z_01, z_em, z_bit_p, Nat.not_le, Nat.not_lt, reduceCtorEq, if_true, if_false]
