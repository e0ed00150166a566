/-! ===== THE REFERENCE: plan ===== -/
theorem b_1024 {k : Nat} (h : k ≤ 10) : 2 ^ k ≤ 1024 := Nat.pow_le_pow_right (n := 2) (j := 10) (by decide) h
theorem R_ans_n (r : Nat → Int32) (n k : Nat) (hn : n ≤ 10) : ∃ x, x < 1024 ∧ R_ans r n k = nI x := by
  unfold R_ans
  split
  · obtain ⟨x, h1, h2, -⟩ := z_set_n (fun j => decide (0 < R_ahs n (r (154 + 3 * k) - r 8).toNatClampNeg r (12 + 13 * j + 2)) && decide (¬ R_adv (R_ahs n (r (154 + 3 * k) - r 8).toNatClampNeg r) j (R_ahs n (r (154 + 3 * k) - r 8).toNatClampNeg r (154 + 3 * k + 1)).toNatClampNeg < R_ahs n (r (154 + 3 * k) - r 8).toNatClampNeg r (154 + 3 * k + 2))) n (by omega)
    exact ⟨x, Nat.lt_of_lt_of_le h1 (b_1024 hn), h2⟩
  · exact ⟨0, by omega, rfl⟩
/-- jars that answer a need -/
def b_a (r : Nat → Int32) (n k : Nat) : Nat := (R_ans r n k).toNatClampNeg
def b_A (r : Nat → Int32) (n k j : Nat) : Bool := (b_a r n k).testBit j
theorem b_a_n (r : Nat → Int32) (n k : Nat) (hn : n ≤ 10) : R_ans r n k = nI (b_a r n k) ∧ b_a r n k < 1024 := by
  obtain ⟨x, h1, h2⟩ := R_ans_n r n k hn
  unfold b_a
  rw [h2, z_nI_cl _ (by omega)]
  exact ⟨rfl, h1⟩
theorem z_bit_an (a t j : Nat) (ha : a < 1024) (hj : j < 31) : z_bit (nI a &&& (nI t ^^^ (-1))) j = (a.testBit j && !t.testBit j) := by
  have e : (-1 : Int32) = nI (2 ^ 32 - 1) := by decide
  rw [e, z_nxor, z_nand]
  have h1 : a &&& (t ^^^ (2 ^ 32 - 1)) ≤ a := Nat.and_le_left
  rw [z_bit_nI _ j (by omega) hj, Nat.testBit_and, Nat.testBit_xor, Nat.testBit_two_pow_sub_one]
  simp [show j < 32 by omega]
def z_o (n x : Nat) : Int32 := if x < n then nI x else -1
theorem z_o_eq {n x j : Nat} (hn : n ≤ 10) (hj : j < n) : (z_o n x = nI j) = (x = j) := by
  unfold z_o
  split
  · rw [z_nI_eq _ _ (by omega) (by omega)]
  · refine propext ⟨fun h => ?_, fun h => by omega⟩
    exact absurd h.symm (by rw [z_ne_m1 j (by omega)]; exact id)
def m_by (a _k : Nat) : Bool := a == 147 || a == 148
/-- the reference's rows of the plan -/
def l_B (I : Ii) (r : Nat → Int32) (n m : Nat) (b c : Nat → Nat) : Prop := I 140 = r ∧ a_ok r n ∧ r 4 = nI m ∧ m ≤ 10 ∧ (∀ k, k < m → I 146 k = nI (b_a r n k)) ∧ (∀ k, k < m → I 147 k = z_o n (b k)) ∧ ∀ j, j < n → I 148 j = nI (c j)
/-- what comes of it: found, or none, with the ground -/
def l_Fd (I : Ii) (T : Tt) (r : Nat → Int32) (n m : Nat) (b c : Nat → Nat) (k : Nat) (t : Nat → Bool) (x : Rs) : Prop := (∃ J b' c', x = z_r 1 J T ∧ z_fr m_by I J ∧ l_B J r n m b' c' ∧ b_S (b_A r n) (a_s r) n m b k t b' c') ∨ (x = z_r 0 I T ∧ ∃ C, (∀ j, j < n → b_A r n k j = true → t j = true ∨ C j = true) ∧ b_X (b_A r n) (a_s r) n m b c t C)
theorem l_finds2 (X : Sx) (d : Nat) (I : Ii) (T : Tt) (r : Nat → Int32) (n m set t k : Nat) (b c : Nat → Nat) (hB : l_B I r n m b c) (hP : b_P (b_A r n) (a_s r) n m b c) (hk : k < m) (ht : t < 1024) : ∀ q j, j + q = n → (∃ J b' c', c_X12_finds_139_2 X (d + 1) (nI k) (nI set) (nI t) (nI j) I T = z_r 1 J T ∧ z_fr m_by I J ∧ l_B J r n m b' c' ∧ b_S (b_A r n) (a_s r) n m b k (fun i => t.testBit i) b' c') ∨ (c_X12_finds_139_2 X (d + 1) (nI k) (nI set) (nI t) (nI j) I T = c_X12_finds_139_48 X (d + 1) (nI k) (nI set) (nI t) 0 none I T ∧ ∀ i, j ≤ i → i < n → b_A r n k i = true → t.testBit i = false → ¬ c i < a_s r i) := by
  obtain ⟨h1, h2, h3, h4, h5, h6, h7⟩ := id hB
  have hn := h2.2.1
  have n3 : I 140 3 = nI n := by rw [h1]; exact h2.1
  have hak := b_a_n r n k hn
  have e146 := h5 k hk
  intro q
  induction q with
  | zero =>
    intro j hj
    refine .inr ⟨?_, fun i h8 h9 => by omega⟩
    rw [e_X12_finds_139_2, n3, if_neg (nI_nlt (by omega) (by omega))]
  | succ q ih =>
    intro j hj
    have hbit := z_bit_an (b_a r n k) t j hak.2 (by omega)
    have e148 := h7 j (by omega)
    have eS := (h2.2.2.1 j (by omega)).1
    rw [← h1] at eS
    have eS' : I 140 (12 + 13 * j + 2) = nI (a_s r j) := by rw [eS, h1]
    have hs20 := (h2.2.2.1 j (by omega)).2
    have hcs := hP.2.1 j (by omega)
    by_cases c1 : (b_a r n k).testBit j && !t.testBit j
    · rw [c1] at hbit
      simp only [Bool.and_eq_true, Bool.not_eq_true'] at c1
      by_cases c2 : c j < a_s r j
      · refine .inl ⟨q_w (q_w I 147 k (nI j)) 148 j (nI (c j + 1)), a_u b k j, a_u c j (c j + 1), ?_, z_fr_w (z_fr_w (z_fr_r _ _) 147 _ _ rfl) 148 _ _ rfl, ⟨?_, h2, h3, h4, ?_, ?_, ?_⟩, b_S1 hP hk (by omega) c1.1 c2⟩
        · rw [e_X12_finds_139_2]
          simp (disch := omega) only [e_X12_finds_139_18, k_X12_finds_139_18, e_X12_finds_139_28, k_X12_finds_139_28, e_X12_finds_139_44, e_X12_finds_139_64, k_X12_finds_139_64, e_X12_finds_139_77, k_X12_finds_139_77, e_X12_finds_139_95, k_X12_finds_139_95, e_X12_finds_139_104, e_X12_finds_139_106, n3, e146, l_isOf, hbit, e148, l_of, eS', q_bd_l, z_ltT, z_ltF, z_eqT, z_eqF, z_ltlT, z_ltlF, z_lltT, z_lltF, z_eqlT, z_eqlF, z_in, z_k7, z_cl, z_lneg, z_llT, z_llF, z_s1, z_nI_cl, z_nlt0, z_ne_m1, z_b0, z_b1, z_la, z_al, z_lm, z_ml, z_nm, nI_add, pk_mul, ↓reduceIte, not_true_eq_false, not_false_eq_true, true_or, or_true, false_or, or_false, true_and, and_true, and_false, false_and, Classical.not_not, Nat.add_zero, z_01, z_em, z_bit_p, Nat.not_le, Nat.not_lt, reduceCtorEq, if_true, if_false, decide_true, decide_false, Bool.and_true, Bool.and_false, Bool.true_and, Bool.false_and, Bool.or_true, Bool.or_false, Bool.true_or, Bool.false_or, Bool.false_eq_true, ne_eq, Bool.not_true, Bool.not_false, decide_not]
        · rw [z_w_a _ _ _ _ _ (by decide), z_w_a _ _ _ _ _ (by decide)]; exact h1
        · intro i hi; rw [z_w_a _ _ _ _ _ (by decide), z_w_a _ _ _ _ _ (by decide)]; exact h5 i hi
        · intro i hi
          rw [z_w_a _ _ _ _ _ (by decide), z_w]
          unfold a_u
          by_cases e : i = k
          · rw [if_pos ⟨rfl, e⟩, if_pos e, z_o, if_pos (by omega)]
          · rw [if_neg (fun c => e c.2), if_neg e]; exact h6 i hi
        · intro i hi
          rw [z_w]
          unfold a_u
          by_cases e : i = j
          · rw [if_pos ⟨rfl, e⟩, if_pos e]
          · rw [if_neg (fun c => e c.2), if_neg e, z_w_a _ _ _ _ _ (by decide)]; exact h7 i hi
      · have st : c_X12_finds_139_2 X (d + 1) (nI k) (nI set) (nI t) (nI j) I T = c_X12_finds_139_2 X (d + 1) (nI k) (nI set) (nI t) (nI (j + 1)) I T := by
          rw [e_X12_finds_139_2]
          simp (disch := omega) only [e_X12_finds_139_18, k_X12_finds_139_18, e_X12_finds_139_28, k_X12_finds_139_28, e_X12_finds_139_44, e_X12_finds_139_64, k_X12_finds_139_64, e_X12_finds_139_77, k_X12_finds_139_77, e_X12_finds_139_95, k_X12_finds_139_95, e_X12_finds_139_104, e_X12_finds_139_106, n3, e146, l_isOf, hbit, e148, l_of, eS', q_bd_l, z_ltT, z_ltF, z_eqT, z_eqF, z_ltlT, z_ltlF, z_lltT, z_lltF, z_eqlT, z_eqlF, z_in, z_k7, z_cl, z_lneg, z_llT, z_llF, z_s1, z_nI_cl, z_nlt0, z_ne_m1, z_b0, z_b1, z_la, z_al, z_lm, z_ml, z_nm, nI_add, pk_mul, ↓reduceIte, not_true_eq_false, not_false_eq_true, true_or, or_true, false_or, or_false, true_and, and_true, and_false, false_and, Classical.not_not, Nat.add_zero, z_01, z_em, z_bit_p, Nat.not_le, Nat.not_lt, reduceCtorEq, if_true, if_false, decide_true, decide_false, Bool.and_true, Bool.and_false, Bool.true_and, Bool.false_and, Bool.or_true, Bool.or_false, Bool.true_or, Bool.false_or, Bool.false_eq_true, ne_eq, Bool.not_true, Bool.not_false, decide_not]
        rw [st]
        rcases ih (j + 1) (by omega) with h8 | ⟨h8, h9⟩
        · exact .inl h8
        · refine .inr ⟨h8, fun i h10 h11 h12 h13 => ?_⟩
          by_cases e : i = j
          · subst e; exact c2
          · exact h9 i (by omega) h11 h12 h13
    · have c1' : ((b_a r n k).testBit j && !t.testBit j) = false := Bool.eq_false_iff.mpr c1
      rw [c1'] at hbit
      have st : c_X12_finds_139_2 X (d + 1) (nI k) (nI set) (nI t) (nI j) I T = c_X12_finds_139_2 X (d + 1) (nI k) (nI set) (nI t) (nI (j + 1)) I T := by
        rw [e_X12_finds_139_2]
        simp (disch := omega) only [e_X12_finds_139_18, k_X12_finds_139_18, e_X12_finds_139_28, k_X12_finds_139_28, e_X12_finds_139_44, e_X12_finds_139_64, k_X12_finds_139_64, e_X12_finds_139_77, k_X12_finds_139_77, e_X12_finds_139_95, k_X12_finds_139_95, e_X12_finds_139_104, e_X12_finds_139_106, n3, e146, l_isOf, hbit, q_bd_l, z_ltT, z_ltF, z_eqT, z_eqF, z_ltlT, z_ltlF, z_lltT, z_lltF, z_eqlT, z_eqlF, z_in, z_k7, z_cl, z_lneg, z_llT, z_llF, z_s1, z_nI_cl, z_nlt0, z_ne_m1, z_b0, z_b1, z_la, z_al, z_lm, z_ml, z_nm, nI_add, pk_mul, ↓reduceIte, not_true_eq_false, not_false_eq_true, true_or, or_true, false_or, or_false, true_and, and_true, and_false, false_and, Classical.not_not, Nat.add_zero, z_01, z_em, z_bit_p, Nat.not_le, Nat.not_lt, reduceCtorEq, if_true, if_false, decide_true, decide_false, Bool.and_true, Bool.and_false, Bool.true_and, Bool.false_and, Bool.or_true, Bool.or_false, Bool.true_or, Bool.false_or, Bool.false_eq_true, ne_eq, Bool.not_true, Bool.not_false, decide_not]
      rw [st]
      rcases ih (j + 1) (by omega) with h8 | ⟨h8, h9⟩
      · exact .inl h8
      · refine .inr ⟨h8, fun i h10 h11 h12 h13 => ?_⟩
        by_cases e : i = j
        · subst e
          unfold b_A at h12
          rw [h12, h13] at c1'
          cases c1'
        · exact h9 i (by omega) h11 h12 h13
def l_FS (X : Sx) (d : Nat) (T : Tt) (r : Nat → Int32) (n m set u : Nat) : Prop := ∀ (t k : Nat) (b c : Nat → Nat) (I : Ii), l_B I r n m b c → b_P (b_A r n) (a_s r) n m b c → k < m → t < 1024 → (∀ o, o < m → b o < n → set.testBit o = true) → (¬ b k < n ∨ t.testBit (b k) = true) → a_c (fun j => !t.testBit j) 0 n ≤ u → l_Fd I T r n m b c k (fun i => t.testBit i) (c_X12_finds_139 X (d + u + 2) (nI k) (nI set) (nI t) I T)
theorem l_findsS (X : Sx) (d : Nat) (T : Tt) (r : Nat → Int32) (n m set : Nat) (hset : set < 1024) (u : Nat) (ih : ∀ u', u' + 1 = u → l_FS X d T r n m set u') : l_FS X d T r n m set u := by
  intro t k b c I hB hP hk ht hset2 hbk hu
  obtain ⟨h1, h2, h3, h4, h5, h6, h7⟩ := id hB
  have hn := h2.2.1
  have n3 : I 140 3 = nI n := by rw [h1]; exact h2.1
  have n4 : I 140 4 = nI m := by rw [h1]; exact h3
  have hak := b_a_n r n k hn
  have e146 := h5 k hk
  rw [e_X12_finds_139]
  rcases l_finds2 X (d + u) I T r n m set t k b c hB hP hk ht n 0 (Nat.zero_add _) with g | ⟨g1, g2⟩
  · exact .inl g
  have g1' : c_X12_finds_139_2 X (d + u + 1) (nI k) (nI set) (nI t) 0 I T = _ := g1
  rw [g1']
  -- what the jars so far have shown
  have key : ∀ q j (o5 : Option Value) (C : Nat → Bool), j + q = n → (∀ i, i < j → b_A r n k i = true → t.testBit i = false → ∀ o, o < m → b o = i → ∀ x, x < n → b_A r n o x = true → t.testBit x = true ∨ b_A r n k x = true ∨ C x = true) → (∀ i, i < n → C i = true → ¬ c i < a_s r i ∧ ∀ o, o < m → b o = i → ∀ x, x < n → b_A r n o x = true → t.testBit x = true ∨ b_A r n k x = true ∨ C x = true) → l_Fd I T r n m b c k (fun i => t.testBit i) (c_X12_finds_139_48 X (d + u + 1) (nI k) (nI set) (nI t) (nI j) o5 I T) := by
    intro q
    induction q with
    | zero =>
      intro j o5 C hj p1 p2
      refine .inr ⟨?_, fun i => (b_A r n k i && !t.testBit i) || C i, fun i hi ha => ?_, fun i hi hc => ?_⟩
      · rw [e_X12_finds_139_48, n3, if_neg (nI_nlt (by omega) (by omega))]
      · cases hti : t.testBit i
        · exact .inr (by simp [ha, hti])
        · exact .inl hti
      · have hx : ∀ x, (t.testBit x = true ∨ b_A r n k x = true ∨ C x = true) → t.testBit x = true ∨ ((b_A r n k x && !t.testBit x) || C x) = true := by
          intro x hx
          cases htx : t.testBit x
          · rcases hx with hx | hx | hx
            · rw [htx] at hx; cases hx
            · exact .inr (by simp [hx])
            · exact .inr (by simp [hx])
          · exact .inl rfl
        simp only [Bool.or_eq_true, Bool.and_eq_true, Bool.not_eq_true'] at hc
        rcases hc with hc | hc
        · exact ⟨g2 i (by omega) hi hc.1 hc.2, fun o ho hb x hx1 ha => hx x (p1 i (by omega) hc.1 hc.2 o ho hb x hx1 ha)⟩
        · exact ⟨(p2 i hi hc).1, fun o ho hb x hx1 ha => hx x ((p2 i hi hc).2 o ho hb x hx1 ha)⟩
    | succ q ihq =>
      intro j o5 C hj p1 p2
      have hbit := z_bit_an (b_a r n k) t j hak.2 (by omega)
      by_cases c1 : ((b_a r n k).testBit j && !t.testBit j) = true
      · rw [c1] at hbit
        simp only [Bool.and_eq_true, Bool.not_eq_true'] at c1
        obtain ⟨c1, c2⟩ := c1
        have st : c_X12_finds_139_48 X (d + u + 1) (nI k) (nI set) (nI t) (nI j) o5 I T = c_X12_finds_139_68 X (d + u + 1) (nI k) (nI set) (nI t) (nI j) (nI 0) I T := by
          rw [e_X12_finds_139_48]
          simp (disch := omega) only [e_X12_finds_139_18, k_X12_finds_139_18, e_X12_finds_139_28, k_X12_finds_139_28, e_X12_finds_139_44, e_X12_finds_139_64, k_X12_finds_139_64, e_X12_finds_139_77, k_X12_finds_139_77, e_X12_finds_139_95, k_X12_finds_139_95, e_X12_finds_139_104, e_X12_finds_139_106, n3, e146, l_isOf, hbit, q_bd_l, z_ltT, z_ltF, z_eqT, z_eqF, z_ltlT, z_ltlF, z_lltT, z_lltF, z_eqlT, z_eqlF, z_in, z_k7, z_cl, z_lneg, z_llT, z_llF, z_s1, z_nI_cl, z_nlt0, z_ne_m1, z_b0, z_b1, z_la, z_al, z_lm, z_ml, z_nm, nI_add, pk_mul, ↓reduceIte, not_true_eq_false, not_false_eq_true, true_or, or_true, false_or, or_false, true_and, and_true, and_false, false_and, Classical.not_not, Nat.add_zero, z_01, z_em, z_bit_p, Nat.not_le, Nat.not_lt, reduceCtorEq, if_true, if_false, decide_true, decide_false, Bool.and_true, Bool.and_false, Bool.true_and, Bool.false_and, Bool.or_true, Bool.or_false, Bool.true_or, Bool.false_or, Bool.false_eq_true, ne_eq, Bool.not_true, Bool.not_false, decide_not]
          rfl
        rw [st]
        have inner : ∀ q2 o (C : Nat → Bool), o + q2 = m → (∀ i, i < j → b_A r n k i = true → t.testBit i = false → ∀ o, o < m → b o = i → ∀ x, x < n → b_A r n o x = true → t.testBit x = true ∨ b_A r n k x = true ∨ C x = true) → (∀ i, i < n → C i = true → ¬ c i < a_s r i ∧ ∀ o, o < m → b o = i → ∀ x, x < n → b_A r n o x = true → t.testBit x = true ∨ b_A r n k x = true ∨ C x = true) → (∀ o', o' < o → b o' = j → ∀ x, x < n → b_A r n o' x = true → t.testBit x = true ∨ b_A r n k x = true ∨ C x = true) → l_Fd I T r n m b c k (fun i => t.testBit i) (c_X12_finds_139_68 X (d + u + 1) (nI k) (nI set) (nI t) (nI j) (nI o) I T) := by
          intro q2
          induction q2 with
          | zero =>
            intro o C ho p1 p2 p3
            have st2 : c_X12_finds_139_68 X (d + u + 1) (nI k) (nI set) (nI t) (nI j) (nI o) I T = c_X12_finds_139_48 X (d + u + 1) (nI k) (nI set) (nI t) (nI (j + 1)) (some (.int (nI o))) I T := by
              rw [e_X12_finds_139_68]
              simp (disch := omega) only [e_X12_finds_139_106, n4, q_bd_l, z_ltT, z_ltF, z_eqT, z_eqF, z_ltlT, z_ltlF, z_lltT, z_lltF, z_eqlT, z_eqlF, z_in, z_k7, z_cl, z_lneg, z_llT, z_llF, z_s1, z_nI_cl, z_nlt0, z_ne_m1, z_b0, z_b1, z_la, z_al, z_lm, z_ml, z_nm, nI_add, pk_mul, ↓reduceIte, not_true_eq_false, not_false_eq_true, true_or, or_true, false_or, or_false, true_and, and_true, and_false, false_and, Classical.not_not, Nat.add_zero, z_01, z_em, z_bit_p, Nat.not_le, Nat.not_lt, reduceCtorEq, if_true, if_false]
            rw [st2]
            refine ihq (j + 1) _ C (by omega) (fun i hi h8 h9 o' ho' hb x hx ha => ?_) p2
            by_cases e : i = j
            · subst e; exact p3 o' (by omega) hb x hx ha
            · exact p1 i (by omega) h8 h9 o' ho' hb x hx ha
          | succ q2 ih2 =>
            intro o C ho p1 p2 p3
            have e147 := h6 o (by omega)
            have hzo : (z_o n (b o) = nI j) = (b o = j) := z_o_eq hn (by omega)
            have hsb : z_bit (nI set) o = set.testBit o := z_bit_nI set o (by omega) (by omega)
            by_cases c3 : b o = j
            · have hz1 : (z_o n (b o) = nI j) = True := by rw [hzo]; exact eq_true c3
              have hso := hset2 o (by omega) (by omega)
              rw [hso] at hsb
              -- the need there looks for another
              have ht1 : t ||| b_a r n k < 1024 := Nat.or_lt_two_pow (n := 10) ht hak.2
              have hcnt : a_c (fun i => !(t ||| b_a r n k).testBit i) 0 n + 1 ≤ a_c (fun i => !t.testBit i) 0 n := by
                rw [a_c_p (P := fun i => !t.testBit i) (Q := fun i => !t.testBit i && !decide (i = j)) (x := j) (by omega) (by omega) (by simp [c2]) (by simp) (fun i _ _ hi => by simp [hi])]
                refine Nat.add_le_add_right (a_c_le (fun i _ _ hi => ?_)) 1
                rw [Nat.testBit_or] at hi
                simp only [Bool.not_eq_true', Bool.or_eq_false_iff] at hi
                have : i ≠ j := fun e => by rw [e, c1] at hi; cases hi.2
                simp [hi.1, this]
              obtain ⟨u', hu'⟩ : ∃ u', u' + 1 = u := ⟨u - 1, by omega⟩
              have nest := ih u' hu' (t ||| b_a r n k) o b c I hB hP (by omega) ht1 hset2 (.inr (by rw [c3, Nat.testBit_or, c1]; simp)) (by omega)
              rw [show d + u' + 2 = d + u + 1 from by omega] at nest
              have e9 : nI t ||| nI (b_a r n k) = nI (t ||| b_a r n k) := z_nor _ _
              rcases nest with ⟨J, b', c', x1, x2, x3, x4⟩ | ⟨x1, C', x2, x3⟩
              · refine .inl ⟨q_w J 147 k (nI j), a_u b' k j, c', ?_, z_fr_w x2 147 _ _ rfl, ?_, b_S2 hk (by omega) c1 hbk c3 c2 (fun i hi => by rw [Nat.testBit_or, hi]; rfl) x4⟩
                · rw [e_X12_finds_139_68]
                  simp (disch := omega) only [e_X12_finds_139_18, k_X12_finds_139_18, e_X12_finds_139_28, k_X12_finds_139_28, e_X12_finds_139_44, e_X12_finds_139_64, k_X12_finds_139_64, e_X12_finds_139_77, k_X12_finds_139_77, e_X12_finds_139_95, k_X12_finds_139_95, e_X12_finds_139_104, e_X12_finds_139_106, n4, l_isOf, hsb, e147, hz1, e146, e9, x1, q_bd_l, z_ltT, z_ltF, z_eqT, z_eqF, z_ltlT, z_ltlF, z_lltT, z_lltF, z_eqlT, z_eqlF, z_in, z_k7, z_cl, z_lneg, z_llT, z_llF, z_s1, z_nI_cl, z_nlt0, z_ne_m1, z_b0, z_b1, z_la, z_al, z_lm, z_ml, z_nm, nI_add, pk_mul, ↓reduceIte, not_true_eq_false, not_false_eq_true, true_or, or_true, false_or, or_false, true_and, and_true, and_false, false_and, Classical.not_not, Nat.add_zero, z_01, z_em, z_bit_p, Nat.not_le, Nat.not_lt, reduceCtorEq, if_true, if_false, decide_true, decide_false, Bool.and_true, Bool.and_false, Bool.true_and, Bool.false_and, Bool.or_true, Bool.or_false, Bool.true_or, Bool.false_or, Bool.false_eq_true, ne_eq, Bool.not_true, Bool.not_false, decide_not]
                · obtain ⟨w1, w2, w3, w4, w5, w6, w7⟩ := x3
                  refine ⟨by rw [z_w_a _ _ _ _ _ (by decide)]; exact w1, w2, w3, w4, fun i hi => by rw [z_w_a _ _ _ _ _ (by decide)]; exact w5 i hi, fun i hi => ?_, fun i hi => by rw [z_w_a _ _ _ _ _ (by decide)]; exact w7 i hi⟩
                  rw [z_w]
                  unfold a_u
                  by_cases e : i = k
                  · rw [if_pos ⟨rfl, e⟩, if_pos e, z_o, if_pos (by omega)]
                  · rw [if_neg (fun c => e c.2), if_neg e]; exact w6 i hi
              · have st3 : c_X12_finds_139_68 X (d + u + 1) (nI k) (nI set) (nI t) (nI j) (nI o) I T = c_X12_finds_139_68 X (d + u + 1) (nI k) (nI set) (nI t) (nI j) (nI (o + 1)) I T := by
                  rw [e_X12_finds_139_68]
                  simp (disch := omega) only [e_X12_finds_139_18, k_X12_finds_139_18, e_X12_finds_139_28, k_X12_finds_139_28, e_X12_finds_139_44, e_X12_finds_139_64, k_X12_finds_139_64, e_X12_finds_139_77, k_X12_finds_139_77, e_X12_finds_139_95, k_X12_finds_139_95, e_X12_finds_139_104, e_X12_finds_139_106, n4, l_isOf, hsb, e147, hz1, e146, e9, x1, q_bd_l, z_ltT, z_ltF, z_eqT, z_eqF, z_ltlT, z_ltlF, z_lltT, z_lltF, z_eqlT, z_eqlF, z_in, z_k7, z_cl, z_lneg, z_llT, z_llF, z_s1, z_nI_cl, z_nlt0, z_ne_m1, z_b0, z_b1, z_la, z_al, z_lm, z_ml, z_nm, nI_add, pk_mul, ↓reduceIte, not_true_eq_false, not_false_eq_true, true_or, or_true, false_or, or_false, true_and, and_true, and_false, false_and, Classical.not_not, Nat.add_zero, z_01, z_em, z_bit_p, Nat.not_le, Nat.not_lt, reduceCtorEq, if_true, if_false, decide_true, decide_false, Bool.and_true, Bool.and_false, Bool.true_and, Bool.false_and, Bool.or_true, Bool.or_false, Bool.true_or, Bool.false_or, Bool.false_eq_true, ne_eq, Bool.not_true, Bool.not_false, decide_not]
                rw [st3]
                have up : ∀ x, (t.testBit x = true ∨ b_A r n k x = true ∨ C x = true) → t.testBit x = true ∨ b_A r n k x = true ∨ (C x || C' x) = true := by
                  intro x hx
                  rcases hx with hx | hx | hx
                  · exact .inl hx
                  · exact .inr (.inl hx)
                  · exact .inr (.inr (by simp [hx]))
                have up2 : ∀ x, ((t ||| b_a r n k).testBit x = true ∨ C' x = true) → t.testBit x = true ∨ b_A r n k x = true ∨ (C x || C' x) = true := by
                  intro x hx
                  rcases hx with hx | hx
                  · rw [Nat.testBit_or, Bool.or_eq_true] at hx
                    rcases hx with hx | hx
                    · exact .inl hx
                    · exact .inr (.inl hx)
                  · exact .inr (.inr (by simp [hx]))
                refine ih2 (o + 1) (fun i => C i || C' i) (by omega) (fun i h8 h9 h10 o' h11 h12 x h13 h14 => up x (p1 i h8 h9 h10 o' h11 h12 x h13 h14)) (fun i hi hc => ?_) (fun o' ho' hb x hx ha => ?_)
                · simp only [Bool.or_eq_true] at hc
                  rcases hc with hc | hc
                  · exact ⟨(p2 i hi hc).1, fun o' h11 h12 x h13 h14 => up x ((p2 i hi hc).2 o' h11 h12 x h13 h14)⟩
                  · exact ⟨(x3 i hi hc).1, fun o' h11 h12 x h13 h14 => up2 x ((x3 i hi hc).2 o' h11 h12 x h13 h14)⟩
                · by_cases e : o' = o
                  · subst e; exact up2 x (x2 x hx ha)
                  · exact up x (p3 o' (by omega) hb x hx ha)
            · have hz1 : (z_o n (b o) = nI j) = False := by rw [hzo]; exact eq_false c3
              have st3 : c_X12_finds_139_68 X (d + u + 1) (nI k) (nI set) (nI t) (nI j) (nI o) I T = c_X12_finds_139_68 X (d + u + 1) (nI k) (nI set) (nI t) (nI j) (nI (o + 1)) I T := by
                rw [e_X12_finds_139_68]
                cases hso : set.testBit o with
                | true =>
                  rw [hso] at hsb
                  simp (disch := omega) only [e_X12_finds_139_18, k_X12_finds_139_18, e_X12_finds_139_28, k_X12_finds_139_28, e_X12_finds_139_44, e_X12_finds_139_64, k_X12_finds_139_64, e_X12_finds_139_77, k_X12_finds_139_77, e_X12_finds_139_95, k_X12_finds_139_95, e_X12_finds_139_104, e_X12_finds_139_106, n4, l_isOf, hsb, e147, hz1, q_bd_l, z_ltT, z_ltF, z_eqT, z_eqF, z_ltlT, z_ltlF, z_lltT, z_lltF, z_eqlT, z_eqlF, z_in, z_k7, z_cl, z_lneg, z_llT, z_llF, z_s1, z_nI_cl, z_nlt0, z_ne_m1, z_b0, z_b1, z_la, z_al, z_lm, z_ml, z_nm, nI_add, pk_mul, ↓reduceIte, not_true_eq_false, not_false_eq_true, true_or, or_true, false_or, or_false, true_and, and_true, and_false, false_and, Classical.not_not, Nat.add_zero, z_01, z_em, z_bit_p, Nat.not_le, Nat.not_lt, reduceCtorEq, if_true, if_false, decide_true, decide_false, Bool.and_true, Bool.and_false, Bool.true_and, Bool.false_and, Bool.or_true, Bool.or_false, Bool.true_or, Bool.false_or, Bool.false_eq_true, ne_eq, Bool.not_true, Bool.not_false, decide_not]
                | false =>
                  rw [hso] at hsb
                  simp (disch := omega) only [e_X12_finds_139_18, k_X12_finds_139_18, e_X12_finds_139_28, k_X12_finds_139_28, e_X12_finds_139_44, e_X12_finds_139_64, k_X12_finds_139_64, e_X12_finds_139_77, k_X12_finds_139_77, e_X12_finds_139_95, k_X12_finds_139_95, e_X12_finds_139_104, e_X12_finds_139_106, n4, l_isOf, hsb, e147, hz1, q_bd_l, z_ltT, z_ltF, z_eqT, z_eqF, z_ltlT, z_ltlF, z_lltT, z_lltF, z_eqlT, z_eqlF, z_in, z_k7, z_cl, z_lneg, z_llT, z_llF, z_s1, z_nI_cl, z_nlt0, z_ne_m1, z_b0, z_b1, z_la, z_al, z_lm, z_ml, z_nm, nI_add, pk_mul, ↓reduceIte, not_true_eq_false, not_false_eq_true, true_or, or_true, false_or, or_false, true_and, and_true, and_false, false_and, Classical.not_not, Nat.add_zero, z_01, z_em, z_bit_p, Nat.not_le, Nat.not_lt, reduceCtorEq, if_true, if_false, decide_true, decide_false, Bool.and_true, Bool.and_false, Bool.true_and, Bool.false_and, Bool.or_true, Bool.or_false, Bool.true_or, Bool.false_or, Bool.false_eq_true, ne_eq, Bool.not_true, Bool.not_false, decide_not]
              rw [st3]
              refine ih2 (o + 1) C (by omega) p1 p2 (fun o' ho' hb x hx ha => ?_)
              by_cases e : o' = o
              · subst e; exact (c3 hb).elim
              · exact p3 o' (by omega) hb x hx ha
        exact inner m 0 C (Nat.zero_add _) p1 p2 (fun o' ho' => by omega)
      · have c1' : ((b_a r n k).testBit j && !t.testBit j) = false := Bool.eq_false_iff.mpr c1
        rw [c1'] at hbit
        have st : c_X12_finds_139_48 X (d + u + 1) (nI k) (nI set) (nI t) (nI j) o5 I T = c_X12_finds_139_48 X (d + u + 1) (nI k) (nI set) (nI t) (nI (j + 1)) o5 I T := by
          rw [e_X12_finds_139_48]
          simp (disch := omega) only [e_X12_finds_139_18, k_X12_finds_139_18, e_X12_finds_139_28, k_X12_finds_139_28, e_X12_finds_139_44, e_X12_finds_139_64, k_X12_finds_139_64, e_X12_finds_139_77, k_X12_finds_139_77, e_X12_finds_139_95, k_X12_finds_139_95, e_X12_finds_139_104, e_X12_finds_139_106, n3, e146, l_isOf, hbit, q_bd_l, z_ltT, z_ltF, z_eqT, z_eqF, z_ltlT, z_ltlF, z_lltT, z_lltF, z_eqlT, z_eqlF, z_in, z_k7, z_cl, z_lneg, z_llT, z_llF, z_s1, z_nI_cl, z_nlt0, z_ne_m1, z_b0, z_b1, z_la, z_al, z_lm, z_ml, z_nm, nI_add, pk_mul, ↓reduceIte, not_true_eq_false, not_false_eq_true, true_or, or_true, false_or, or_false, true_and, and_true, and_false, false_and, Classical.not_not, Nat.add_zero, z_01, z_em, z_bit_p, Nat.not_le, Nat.not_lt, reduceCtorEq, if_true, if_false, decide_true, decide_false, Bool.and_true, Bool.and_false, Bool.true_and, Bool.false_and, Bool.or_true, Bool.or_false, Bool.true_or, Bool.false_or, Bool.false_eq_true, ne_eq, Bool.not_true, Bool.not_false, decide_not]
        rw [st]
        refine ihq (j + 1) o5 C (by omega) (fun i hi h8 h9 => ?_) p2
        by_cases e : i = j
        · subst e
          unfold b_A at h8
          rw [h8, h9] at c1'
          cases c1'
        · exact p1 i (by omega) h8 h9
  exact key n 0 none (fun _ => false) (Nat.zero_add _) (fun i hi => by omega) (fun i hi hc => by cases hc)
theorem l_findsT (X : Sx) (d : Nat) (T : Tt) (r : Nat → Int32) (n m set : Nat) (hset : set < 1024) : ∀ u, l_FS X d T r n m set u := by
  intro u
  induction u with
  | zero => exact l_findsS X d T r n m set hset 0 (fun u' h => by omega)
  | succ u ih => exact l_findsS X d T r n m set hset (u + 1) (fun u' h => by
      have : u' = u := by omega
      subst this; exact ih)
/-- a set of needs: they are met, or cannot be -/
theorem l_areMet (X : Sx) (d : Nat) (I : Ii) (T : Tt) (r : Nat → Int32) (n m set : Nat) (h1 : I 140 = r) (h2 : a_ok r n) (h3 : r 4 = nI m) (h4 : m ≤ 10) (h5 : ∀ k, k < m → I 146 k = nI (b_a r n k)) (hs : set < 2 ^ m) : ∃ J v, c_X12_areMet_139 X (d + 14) (nI set) I T = z_r v J T ∧ z_fr m_by I J ∧ ((v = 1 ∧ b_M (b_A r n) (a_s r) n m (fun k => set.testBit k)) ∨ (v = 0 ∧ ¬ b_M (b_A r n) (a_s r) n m (fun k => set.testBit k))) := by
  have hn := h2.2.1
  have hs10 : set < 1024 := Nat.lt_of_lt_of_le hs (b_1024 h4)
  -- all is made empty
  obtain ⟨J, ⟨j1, j2, j3⟩, j4⟩ := z_foldP (β := Unit) (σ := Ii) (fun k _ J => c_X12_areMet_139_2 X (d + 13) (nI set) (nI k) J T) (fun _ a => a) (fun k _ J => z_fr m_by I J ∧ (∀ i, i < k → J 147 i = -1) ∧ ∀ i, i < k → J 148 i = nI 0) 10 (by
    intro k _ J hk ⟨q1, q2, q3⟩
    refine ⟨q_w (q_w J 147 k (-1)) 148 k 0, ⟨z_fr_w (z_fr_w q1 147 _ _ rfl) 148 _ _ rfl, fun i hi => ?_, fun i hi => ?_⟩, ?_⟩
    · rw [z_w_a _ _ _ _ _ (by decide), z_w]
      by_cases e : i = k
      · rw [if_pos ⟨rfl, e⟩]
      · rw [if_neg (fun c => e c.2)]; exact q2 i (by omega)
    · rw [z_w]
      by_cases e : i = k
      · rw [if_pos ⟨rfl, e⟩]; rfl
      · rw [if_neg (fun c => e c.2), z_w_a _ _ _ _ _ (by decide)]; exact q3 i (by omega)
    · rw [e_X12_areMet_139_2]
      simp (disch := omega) only [q_bd_l, z_ltT, z_ltF, z_eqT, z_eqF, z_ltlT, z_ltlF, z_lltT, z_lltF, z_eqlT, z_eqlF, z_in, z_k7, z_cl, z_lneg, z_llT, z_llF, z_s1, z_nI_cl, z_nlt0, z_ne_m1, z_b0, z_b1, z_la, z_al, z_lm, z_ml, z_nm, nI_add, pk_mul, ↓reduceIte, not_true_eq_false, not_false_eq_true, true_or, or_true, false_or, or_false, true_and, and_true, and_false, false_and, Classical.not_not, Nat.add_zero, z_01, z_em, z_bit_p, Nat.not_le, Nat.not_lt, reduceCtorEq, if_true, if_false]) () I ⟨z_fr_r _ _, fun i hi => by omega, fun i hi => by omega⟩
  have B0 : l_B J r n m (fun _ => n) (fun _ => 0) := ⟨(funext (fun i => j1 140 i rfl)).trans h1, h2, h3, h4, fun k hk => by rw [j1 146 k rfl]; exact h5 k hk, fun k hk => by rw [j2 k (by omega), z_o, if_neg (Nat.lt_irrefl n)], fun j hj => j3 j (by omega)⟩
  have P0 : b_P (b_A r n) (a_s r) n m (fun _ => n) (fun _ => 0) := ⟨fun j hj => (a_c_0 (fun i _ _ => by simp; omega)).symm, fun j hj => Nat.zero_le _, fun o ho hb => absurd hb (Nat.lt_irrefl n)⟩
  have key : ∀ q k (b c : Nat → Nat) (K : Ii), k + q = m → z_fr m_by I K → l_B K r n m b c → b_P (b_A r n) (a_s r) n m b c → (∀ o, o < m → (b o < n ↔ o < k ∧ set.testBit o = true)) → ∃ J v, c_X12_areMet_139_19 X (d + 13) (nI set) (nI k) K T = z_r v J T ∧ z_fr m_by I J ∧ ((v = 1 ∧ b_M (b_A r n) (a_s r) n m (fun k => set.testBit k)) ∨ (v = 0 ∧ ¬ b_M (b_A r n) (a_s r) n m (fun k => set.testBit k))) := by
    intro q
    induction q with
    | zero =>
      intro k b c K hk hf hB hP hb
      have n4 : K 140 4 = nI m := by rw [hB.1]; exact h3
      refine ⟨K, 1, ?_, hf, .inl ⟨rfl, b_M_m (b_V_M (b_P_V hP)) (fun o ho h => ?_)⟩⟩
      · rw [e_X12_areMet_139_19, n4, if_neg (nI_nlt (by omega) (by omega))]
      · simp only [b_G, decide_eq_true_eq]
        exact (hb o ho).mpr ⟨by omega, h⟩
    | succ q ih =>
      intro k b c K hk hf hB hP hb
      have n4 : K 140 4 = nI m := by rw [hB.1]; exact h3
      have hsb : z_bit (nI set) k = set.testBit k := z_bit_nI set k (by omega) (by omega)
      cases hsk : set.testBit k with
      | false =>
        rw [hsk] at hsb
        have st : c_X12_areMet_139_19 X (d + 13) (nI set) (nI k) K T = c_X12_areMet_139_19 X (d + 13) (nI set) (nI (k + 1)) K T := by
          rw [e_X12_areMet_139_19]
          simp (disch := omega) only [e_X12_areMet_139_28, k_X12_areMet_139_28, e_X12_areMet_139_34, k_X12_areMet_139_34, e_X12_areMet_139_37, n4, l_isOf, hsb, q_bd_l, z_ltT, z_ltF, z_eqT, z_eqF, z_ltlT, z_ltlF, z_lltT, z_lltF, z_eqlT, z_eqlF, z_in, z_k7, z_cl, z_lneg, z_llT, z_llF, z_s1, z_nI_cl, z_nlt0, z_ne_m1, z_b0, z_b1, z_la, z_al, z_lm, z_ml, z_nm, nI_add, pk_mul, ↓reduceIte, not_true_eq_false, not_false_eq_true, true_or, or_true, false_or, or_false, true_and, and_true, and_false, false_and, Classical.not_not, Nat.add_zero, z_01, z_em, z_bit_p, Nat.not_le, Nat.not_lt, reduceCtorEq, if_true, if_false, decide_true, decide_false, Bool.and_true, Bool.and_false, Bool.true_and, Bool.false_and, Bool.or_true, Bool.or_false, Bool.true_or, Bool.false_or, Bool.false_eq_true, ne_eq, Bool.not_true, Bool.not_false, decide_not]
        rw [st]
        refine ih (k + 1) b c K (by omega) hf hB hP (fun o ho => ?_)
        rw [hb o ho]
        refine ⟨fun h => ⟨by omega, h.2⟩, fun h => ⟨?_, h.2⟩⟩
        have : o ≠ k := fun e => by rw [e, hsk] at h; cases h.2
        omega
      | true =>
        rw [hsk] at hsb
        have hbk : ¬ b k < n := fun h => by have := (hb k (by omega)).mp h; omega
        have F := l_findsT X (d + 1) T r n m set hs10 10 0 k b c K hB hP (by omega) (by omega) (fun o ho h => ((hb o ho).mp h).2) (.inl hbk) (Nat.le_trans a_c_k hn)
        have e9 : d + 1 + 10 + 2 = d + 13 := by omega
        rw [e9] at F
        rcases F with ⟨L, b', c', x1, x2, x3, x4⟩ | ⟨x1, C, x2, x3⟩
        · have x1' : c_X12_finds_139 X (d + 13) (nI k) (nI set) 0 K T = z_r 1 L T := x1
          have st : c_X12_areMet_139_19 X (d + 13) (nI set) (nI k) K T = c_X12_areMet_139_19 X (d + 13) (nI set) (nI (k + 1)) L T := by
            rw [e_X12_areMet_139_19]
            simp (disch := omega) only [e_X12_areMet_139_28, k_X12_areMet_139_28, e_X12_areMet_139_34, k_X12_areMet_139_34, e_X12_areMet_139_37, n4, l_isOf, hsb, x1', q_bd_l, z_ltT, z_ltF, z_eqT, z_eqF, z_ltlT, z_ltlF, z_lltT, z_lltF, z_eqlT, z_eqlF, z_in, z_k7, z_cl, z_lneg, z_llT, z_llF, z_s1, z_nI_cl, z_nlt0, z_ne_m1, z_b0, z_b1, z_la, z_al, z_lm, z_ml, z_nm, nI_add, pk_mul, ↓reduceIte, not_true_eq_false, not_false_eq_true, true_or, or_true, false_or, or_false, true_and, and_true, and_false, false_and, Classical.not_not, Nat.add_zero, z_01, z_em, z_bit_p, Nat.not_le, Nat.not_lt, reduceCtorEq, if_true, if_false, decide_true, decide_false, Bool.and_true, Bool.and_false, Bool.true_and, Bool.false_and, Bool.or_true, Bool.or_false, Bool.true_or, Bool.false_or, Bool.false_eq_true, ne_eq, Bool.not_true, Bool.not_false, decide_not]
          rw [st]
          obtain ⟨y1, y2, y3, y4⟩ := b_S_P hbk x4
          refine ih (k + 1) b' c' L (by omega) (z_fr_t hf x2) x3 y1 (fun o ho => ?_)
          by_cases e : o = k
          · subst e; exact ⟨fun _ => ⟨by omega, hsk⟩, fun _ => y2⟩
          · by_cases e2 : b o < n
            · have := (hb o ho).mp e2
              exact ⟨fun _ => ⟨by omega, this.2⟩, fun _ => y4 o ho e e2⟩
            · rw [y3 o ho e e2]
              refine ⟨fun h => absurd h e2, fun h => absurd ((hb o ho).mpr ⟨by omega, h.2⟩) e2⟩
        · have x1' : c_X12_finds_139 X (d + 13) (nI k) (nI set) 0 K T = z_r 0 K T := x1
          have z0 : ∀ i, (0 : Nat).testBit i = false := fun i => Nat.zero_testBit i
          refine ⟨K, 0, ?_, hf, .inr ⟨rfl, ?_⟩⟩
          · rw [e_X12_areMet_139_19]
            simp (disch := omega) only [e_X12_areMet_139_28, k_X12_areMet_139_28, e_X12_areMet_139_34, k_X12_areMet_139_34, e_X12_areMet_139_37, n4, l_isOf, hsb, x1', q_bd_l, z_ltT, z_ltF, z_eqT, z_eqF, z_ltlT, z_ltlF, z_lltT, z_lltF, z_eqlT, z_eqlF, z_in, z_k7, z_cl, z_lneg, z_llT, z_llF, z_s1, z_nI_cl, z_nlt0, z_ne_m1, z_b0, z_b1, z_la, z_al, z_lm, z_ml, z_nm, nI_add, pk_mul, ↓reduceIte, not_true_eq_false, not_false_eq_true, true_or, or_true, false_or, or_false, true_and, and_true, and_false, false_and, Classical.not_not, Nat.add_zero, z_01, z_em, z_bit_p, Nat.not_le, Nat.not_lt, reduceCtorEq, if_true, if_false, decide_true, decide_false, Bool.and_true, Bool.and_false, Bool.true_and, Bool.false_and, Bool.or_true, Bool.or_false, Bool.true_or, Bool.false_or, Bool.false_eq_true, ne_eq, Bool.not_true, Bool.not_false, decide_not]
          · have x3' : b_X (b_A r n) (a_s r) n m b c (fun _ => false) C := fun j hj hc => ⟨(x3 j hj hc).1, fun o ho hb i hi ha => by
              rcases (x3 j hj hc).2 o ho hb i hi ha with h | h
              · have h : (0 : Nat).testBit i = true := h
                rw [z0 i] at h; cases h
              · exact .inr h⟩
            refine b_no (C := C) (by omega) hbk hsk (fun o ho h => ((hb o ho).mp h).2) (fun j hj ha => ?_) (b_X_cl hP x3')
            rcases x2 j hj ha with h | h
            · have h : (0 : Nat).testBit j = true := h
              rw [z0 j] at h; cases h
            · exact h
  obtain ⟨L, v, w1, w2, w3⟩ := key m 0 (fun _ => n) (fun _ => 0) J (Nat.zero_add _) j1 B0 P0 (fun o ho => ⟨fun h => absurd h (Nat.lt_irrefl n), fun h => absurd h.1 (Nat.not_lt_zero _)⟩)
  refine ⟨L, v, ?_, w2, w3⟩
  rw [e_X12_areMet_139]
  refine (show c_X12_areMet_139_2 X (d + 13) (nI set) (nI 0) I T = _ from j4).trans ?_
  rw [← w1, e_X12_areMet_139_2, if_neg (by decide)]
  rfl
theorem R_bits_n (x : Nat) (hx : x < 2 ^ 31) : R_bits (nI x) = nI (a_c (fun i => x.testBit i) 0 31) := by
  have key : ∀ k, k ≤ 31 → z_it (fun k a => a + ((nI x >>> (nI k &&& 31)) &&& (1 : Int32))) k 0 = nI (a_c (fun i => x.testBit i) 0 k) := by
    intro k
    induction k with
    | zero => intro _; rfl
    | succ k ih =>
      intro hk
      show z_it (fun k a => a + ((nI x >>> (nI k &&& 31)) &&& (1 : Int32))) k 0 + ((nI x >>> (nI k &&& 31)) &&& (1 : Int32)) = _
      rw [ih (by omega), z_shr x k hx (by omega), z_and1 _ (Nat.lt_of_le_of_lt (Nat.div_le_self _ _) hx), nI_add, a_c_t, Nat.testBit_eq_decide_div_mod_eq]
      congr 2
      have : x / 2 ^ k % 2 < 2 := Nat.mod_lt _ (by decide)
      by_cases h : x / 2 ^ k % 2 = 1
      · simp [h]
      · simp [h]; omega
  exact key 31 (Nat.le_refl _)
theorem a_c_31 {x m : Nat} (hx : x < 2 ^ m) (hm : m ≤ 31) : a_c (fun i => x.testBit i) 0 31 = a_c (fun i => x.testBit i) 0 m := by
  rw [show (31 : Nat) = m + (31 - m) from by omega, a_c_s, a_c_0 (a := 0 + m) (fun i h1 h2 => Nat.testBit_lt_two_pow (Nat.lt_of_lt_of_le hx (Nat.pow_le_pow_right (by decide) (by omega))))]
  rfl
theorem b_M0 (A : Nat → Nat → Bool) (s : Nat → Nat) (n m : Nat) : b_M A s n m (fun k => (0 : Nat).testBit k) := by
  refine ⟨fun _ => 0, fun k hk h => ?_, fun j hj => ?_⟩
  · have h : (0 : Nat).testBit k = true := h
    rw [Nat.zero_testBit] at h; cases h
  · rw [a_c_0 (fun i _ _ => by simp)]; exact Nat.zero_le _
/-- PLAN: g is the set that both find -/
def b_plan (r : Nat → Int32) (n m g : Nat) : Prop := g < 2 ^ m ∧ b_M (b_A r n) (a_s r) n m (fun k => g.testBit k) ∧ ∀ x, x < 2 ^ m → b_M (b_A r n) (a_s r) n m (fun k => x.testBit k) → ∀ k, k ≤ m → a_c (fun i => x.testBit i) 0 k ≤ a_c (fun i => g.testBit i) 0 k
theorem l_plan (X : Sx) (d : Nat) (I : Ii) (T : Tt) (n m g : Nat) (h : R_g n (I 140)) (h2 : a_ok (I 140) n) (h4 : I 140 4 = nI m) (hm : m ≤ 10) (hq : ∀ k, k < m → z_le (I 140 (154 + 3 * k + 1)) 5) (hg : b_plan (I 140) n m g) : ∃ K, c_X12_plan_139 X (d + 38) I T = z_r (nI g) K T ∧ z_fr m_q I K ∧ K 139 0 = 0 := by
  have hn := h2.2.1
  obtain ⟨g1, g2, g3⟩ := hg
  have e2m : (2 : Nat) ^ m ≤ 1024 := b_1024 hm
  obtain ⟨J, ⟨j1, j2, j3⟩, j4⟩ := z_foldP (β := Unit) (σ := Ii) (fun k _ J => c_X12_plan_139_5 X (d + 37) (nI k) J T) (fun _ a => a) (fun k _ J => z_fr m_q I J ∧ J 139 0 = 0 ∧ ∀ i, i < k → J 146 i = nI (b_a (I 140) n i)) m (by
    intro k _ J hk ⟨q1, q2, q3⟩
    have eJ := z_q140 q1
    have n4 : J 140 4 = nI m := by rw [eJ]; exact h4
    obtain ⟨L, l1, l2, l3⟩ := l_answers1 X d J T n k (by rw [eJ]; exact h) (by omega) q2 (by rw [eJ]; exact hq k hk)
    rw [eJ, (b_a_n (I 140) n k hn).1] at l1
    refine ⟨q_w L 146 k (nI (b_a (I 140) n k)), ⟨z_fr_w (z_fr_t q1 (z_q1q l3)) 146 _ _ rfl, by rw [z_w_a _ _ _ _ _ (by decide)]; exact l2, fun i hi => ?_⟩, ?_⟩
    · rw [z_w]
      by_cases e : i = k
      · rw [if_pos ⟨rfl, e⟩, e]
      · rw [if_neg (fun c => e c.2), l3 146 i (by simp [m_q1, m_r])]; exact q3 i (by omega)
    · rw [e_X12_plan_139_5]
      simp (disch := omega) only [e_X12_plan_139_17, k_X12_plan_139_17, e_X12_plan_139_34, k_X12_plan_139_34, e_X12_plan_139_36, k_X12_plan_139_36, e_X12_plan_139_40, k_X12_plan_139_40, e_X12_plan_139_43, n4, l1, q_bd_l, z_ltT, z_ltF, z_eqT, z_eqF, z_ltlT, z_ltlF, z_lltT, z_lltF, z_eqlT, z_eqlF, z_in, z_k7, z_cl, z_lneg, z_llT, z_llF, z_s1, z_nI_cl, z_nlt0, z_ne_m1, z_b0, z_b1, z_la, z_al, z_lm, z_ml, z_nm, nI_add, pk_mul, ↓reduceIte, not_true_eq_false, not_false_eq_true, true_or, or_true, false_or, or_false, true_and, and_true, and_false, false_and, Classical.not_not, Nat.add_zero, z_01, z_em, z_bit_p, Nat.not_le, Nat.not_lt, reduceCtorEq, if_true, if_false]) () (q_w I 139 0 0) ⟨z_q0 I 0, z_w_s _ _ _ _, fun i hi => by omega⟩
  have eJ := z_q140 j1
  letI : DecidablePred (fun x : Nat => b_M (b_A (I 140) n) (a_s (I 140)) n m (fun k => x.testBit k)) := fun _ => Classical.propDecidable _
  have hbest := b_best (fun x : Nat => b_M (b_A (I 140) n) (a_s (I 140)) n m (fun k => x.testBit k)) m g g1 g2 g3 (b_M0 _ _ _ _)
  obtain ⟨K, ⟨k1, k2, k3⟩, k4⟩ := z_foldP (β := Nat) (σ := Ii) (fun x f K => c_X12_plan_139_24 X (d + 37) (nI f) (nI x) K T) (fun x f => if a_c (fun i => f.testBit i) 0 m < a_c (fun i => x.testBit i) 0 m ∧ b_M (b_A (I 140) n) (a_s (I 140)) n m (fun k => x.testBit k) then x else f) (fun x f K => z_fr m_by J K ∧ f < 2 ^ m ∧ True) (2 ^ m) (by
    intro x f K hx ⟨q1, q2, _⟩
    have eK : K 140 = I 140 := (funext (fun i => q1 140 i rfl)).trans eJ
    have n4 : K 140 4 = nI m := by rw [eK]; exact h4
    have b1 : R_bits (nI x) = nI (a_c (fun i => x.testBit i) 0 m) := by rw [R_bits_n x (by omega), a_c_31 hx (by omega)]
    have b2 : R_bits (nI f) = nI (a_c (fun i => f.testBit i) 0 m) := by rw [R_bits_n f (by omega), a_c_31 q2 (by omega)]
    have c1 : a_c (fun i => x.testBit i) 0 m ≤ m := a_c_k
    have c2 : a_c (fun i => f.testBit i) 0 m ≤ m := a_c_k
    have e1 : (1 : Int32) <<< (nI m &&& 31) = nI (2 ^ m) := z_shl1 m (by omega)
    by_cases c3 : a_c (fun i => f.testBit i) 0 m < a_c (fun i => x.testBit i) 0 m
    · obtain ⟨L, v, l1, l2, l3⟩ := l_areMet X (d + 23) K T (I 140) n m x eK h2 h4 hm (fun k hk => by rw [q1 146 k rfl]; exact j3 k hk) hx
      rcases l3 with ⟨rfl, l3⟩ | ⟨rfl, l3⟩
      · rw [if_pos ⟨c3, l3⟩]
        refine ⟨L, ⟨z_fr_t q1 l2, hx, trivial⟩, ?_⟩
        rw [e_X12_plan_139_24]
        simp (disch := omega) only [e_X12_plan_139_17, k_X12_plan_139_17, e_X12_plan_139_34, k_X12_plan_139_34, e_X12_plan_139_36, k_X12_plan_139_36, e_X12_plan_139_40, k_X12_plan_139_40, e_X12_plan_139_43, n4, e1, l_bits, b1, b2, l1, q_bd_l, z_ltT, z_ltF, z_eqT, z_eqF, z_ltlT, z_ltlF, z_lltT, z_lltF, z_eqlT, z_eqlF, z_in, z_k7, z_cl, z_lneg, z_llT, z_llF, z_s1, z_nI_cl, z_nlt0, z_ne_m1, z_b0, z_b1, z_la, z_al, z_lm, z_ml, z_nm, nI_add, pk_mul, ↓reduceIte, not_true_eq_false, not_false_eq_true, true_or, or_true, false_or, or_false, true_and, and_true, and_false, false_and, Classical.not_not, Nat.add_zero, z_01, z_em, z_bit_p, Nat.not_le, Nat.not_lt, reduceCtorEq, if_true, if_false]
      · rw [if_neg (fun c => l3 c.2)]
        refine ⟨L, ⟨z_fr_t q1 l2, q2, trivial⟩, ?_⟩
        rw [e_X12_plan_139_24]
        simp (disch := omega) only [e_X12_plan_139_17, k_X12_plan_139_17, e_X12_plan_139_34, k_X12_plan_139_34, e_X12_plan_139_36, k_X12_plan_139_36, e_X12_plan_139_40, k_X12_plan_139_40, e_X12_plan_139_43, n4, e1, l_bits, b1, b2, l1, q_bd_l, z_ltT, z_ltF, z_eqT, z_eqF, z_ltlT, z_ltlF, z_lltT, z_lltF, z_eqlT, z_eqlF, z_in, z_k7, z_cl, z_lneg, z_llT, z_llF, z_s1, z_nI_cl, z_nlt0, z_ne_m1, z_b0, z_b1, z_la, z_al, z_lm, z_ml, z_nm, nI_add, pk_mul, ↓reduceIte, not_true_eq_false, not_false_eq_true, true_or, or_true, false_or, or_false, true_and, and_true, and_false, false_and, Classical.not_not, Nat.add_zero, z_01, z_em, z_bit_p, Nat.not_le, Nat.not_lt, reduceCtorEq, if_true, if_false]
    · rw [if_neg (fun c => c3 c.1)]
      refine ⟨K, ⟨q1, q2, trivial⟩, ?_⟩
      rw [e_X12_plan_139_24]
      simp (disch := omega) only [e_X12_plan_139_17, k_X12_plan_139_17, e_X12_plan_139_34, k_X12_plan_139_34, e_X12_plan_139_36, k_X12_plan_139_36, e_X12_plan_139_40, k_X12_plan_139_40, e_X12_plan_139_43, n4, e1, l_bits, b1, b2, q_bd_l, z_ltT, z_ltF, z_eqT, z_eqF, z_ltlT, z_ltlF, z_lltT, z_lltF, z_eqlT, z_eqlF, z_in, z_k7, z_cl, z_lneg, z_llT, z_llF, z_s1, z_nI_cl, z_nlt0, z_ne_m1, z_b0, z_b1, z_la, z_al, z_lm, z_ml, z_nm, nI_add, pk_mul, ↓reduceIte, not_true_eq_false, not_false_eq_true, true_or, or_true, false_or, or_false, true_and, and_true, and_false, false_and, Classical.not_not, Nat.add_zero, z_01, z_em, z_bit_p, Nat.not_le, Nat.not_lt, reduceCtorEq, if_true, if_false]) 0 J ⟨z_fr_r _ _, Nat.two_pow_pos m, trivial⟩
  rw [hbest] at k4
  have eK : K 140 = I 140 := (funext (fun i => k1 140 i rfl)).trans eJ
  refine ⟨K, ?_, z_fr_t j1 (z_fr_m k1 (fun a k h => by simp [m_by] at h; rcases h with h | h <;> simp [m_q, h])), by rw [k1 139 0 rfl]; exact j2⟩
  rw [e_X12_plan_139]
  refine (show c_X12_plan_139_5 X (d + 37) (nI 0) (q_w I 139 0 0) T = _ from j4).trans ?_
  rw [e_X12_plan_139_5, show J 140 4 = nI m by rw [eJ]; exact h4, if_neg (nI_nlt (Nat.le_refl _) (by omega))]
  refine (show c_X12_plan_139_24 X (d + 37) (nI 0) (nI 0) J T = _ from k4).trans ?_
  rw [e_X12_plan_139_24, show K 140 4 = nI m by rw [eK]; exact h4, z_shl1 m (by omega), if_neg (nI_nlt (Nat.le_refl _) (by omega))]
