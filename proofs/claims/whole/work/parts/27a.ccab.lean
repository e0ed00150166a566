/-! ===== THE CLASS READS THE CABINET: its drafts ===== -/
def m_rd (a k : Nat) : Bool := m_ta a k || (a == 11 && (k == 0 || k == 5 || k == 9 || k == 10 || k == 11)) || (Nat.ble 12 a && Nat.ble a 18) || (a == 32 && k == 4) || (Nat.ble 33 a && Nat.ble a 36)
theorem z_rd_ta {I J : Ii} (h : z_fr m_ta I J) : z_fr m_rd I J := z_fr_m h (fun a k h => by simp [m_rd, h])
/-- the drafts stand for r -/
def k_D (I : Ii) (r : Nat → Int32) (n m : Nat) : Prop := z_Sh I 11 r n m ∧ z_Mo I 32 r n
/-- cells of jar n, who is not yet there -/
def m_jn (n a k : Nat) : Bool := m_ta a k || ((a == 12 || a == 13 || a == 33 || a == 34 || a == 35 || a == 36) && k == n) || (a == 14 && Nat.ble (n * 6) k)
theorem z_jn_ta {I J : Ii} {n : Nat} (h : z_fr m_ta I J) : z_fr (m_jn n) I J := z_fr_m h (fun a k h => by simp [m_jn, h])
theorem z_jn_rd {I J : Ii} {n : Nat} (h : z_fr (m_jn n) I J) : z_fr m_rd I J := z_fr_m h (fun a k h => by
  simp only [m_jn, Bool.or_eq_true, Bool.and_eq_true, beq_iff_eq] at h
  rcases h with (h | ⟨h, -⟩) | ⟨h, -⟩
  · simp [m_rd, h]
  · rcases h with ((((h | h) | h) | h) | h) | h <;> subst h <;> simp [m_rd]
  · subst h; simp [m_rd])
theorem m_jn_k {n a k : Nat} (h : m_ta a k = false) (h1 : ¬ ((a = 12 ∨ a = 13 ∨ a = 33 ∨ a = 34 ∨ a = 35 ∨ a = 36) ∧ k = n)) (h2 : ¬ (a = 14 ∧ n * 6 ≤ k)) : m_jn n a k = false := by
  cases e : m_jn n a k
  · rfl
  · simp only [m_jn, Bool.or_eq_true, Bool.and_eq_true, beq_iff_eq, Nat.ble_eq] at e
    rcases e with (e | ⟨e, e2⟩) | e
    · rw [h] at e; cases e
    · refine absurd ⟨?_, e2⟩ h1
      rcases e with ((((e | e) | e) | e) | e) | e <;> simp [e]
    · exact absurd e h2
theorem m_ta_a {a k : Nat} (h : a ≠ 1) : m_ta a k = false := by simp [m_ta, h]
theorem k_D_jn {I J : Ii} {r : Nat → Int32} {n m : Nat} (h : k_D I r n m) (hf : z_fr (m_jn n) I J) : k_D J r n m := by
  obtain ⟨⟨s1, s2, s3, s4, s5, s6, s7, s8, s9, s10, s11, s12, s13⟩, t1, t2, t3, t4, t5, t6, t7, t8, o, t9, t10, t11⟩ := h
  have q : ∀ a k, a ≠ 1 → ¬ ((a = 12 ∨ a = 13 ∨ a = 33 ∨ a = 34 ∨ a = 35 ∨ a = 36) ∧ k = n) → ¬ (a = 14 ∧ n * 6 ≤ k) → J a k = I a k := fun a k h h1 h2 => hf a k (m_jn_k (m_ta_a h) h1 h2)
  refine ⟨⟨?_, ?_, ?_, ?_, ?_, ?_, ?_, ?_, ?_, ?_, ?_, ?_, ?_⟩, ?_, ?_, ?_, ?_, ?_, ?_, ?_, ?_, o, t9, ?_, t11⟩
  · rw [q 11 0 (by omega) (by omega) (by omega)]; exact s1
  · rw [q 11 5 (by omega) (by omega) (by omega)]; exact s2
  · rw [q 11 9 (by omega) (by omega) (by omega)]; exact s3
  · rw [q 11 10 (by omega) (by omega) (by omega)]; exact s4
  · rw [q 11 11 (by omega) (by omega) (by omega)]; exact s5
  · rw [q 11 12 (by omega) (by omega) (by omega)]; exact s6
  · intro j hj; rw [q (11 + 1) j (by omega) (by omega) (by omega)]; exact s7 j hj
  · intro j hj; rw [q (11 + 2) j (by omega) (by omega) (by omega)]; exact s8 j hj
  · intro j t hj ht; rw [q (11 + 3) (j * 6 + t) (by omega) (by omega) (by omega)]; exact s9 j t hj ht
  · intro j hj; rw [q (11 + 4) j (by omega) (by omega) (by omega)]; exact s10 j hj
  · intro j hj; rw [q (11 + 5) j (by omega) (by omega) (by omega)]; exact s11 j hj
  · intro j hj; rw [q (11 + 6) j (by omega) (by omega) (by omega)]; exact s12 j hj
  · intro j hj; rw [q (11 + 7) j (by omega) (by omega) (by omega)]; exact s13 j hj
  · rw [q 32 5 (by omega) (by omega) (by omega)]; exact t1
  · rw [q 32 7 (by omega) (by omega) (by omega)]; exact t2
  · rw [q 32 6 (by omega) (by omega) (by omega)]; exact t3
  · rw [q 32 9 (by omega) (by omega) (by omega)]; exact t4
  · intro j hj; rw [q (32 + 1) j (by omega) (by omega) (by omega)]; exact t5 j hj
  · intro j hj; rw [q (32 + 2) j (by omega) (by omega) (by omega)]; exact t6 j hj
  · intro j hj; rw [q (32 + 3) j (by omega) (by omega) (by omega)]; exact t7 j hj
  · intro j hj; rw [q (32 + 4) j (by omega) (by omega) (by omega)]; exact t8 j hj
  · rw [q 32 4 (by omega) (by omega) (by omega)]; exact t10
theorem z_lidn {o n : Nat} (ho : o < 2 ^ n) (hn : n < 10) : nI o &&& (((1 : Int32) <<< (nI n &&& 31)) ^^^ (-1)) = nI o := by
  have e : (-1 : Int32) = nI (2 ^ 32 - 1) := by decide
  rw [z_shl1 n (by omega), e, z_nxor, z_nand]
  congr 1
  apply Nat.eq_of_testBit_eq
  intro i
  rw [Nat.testBit_and, Nat.testBit_xor, Nat.testBit_two_pow_sub_one, Nat.testBit_two_pow]
  rcases Nat.lt_or_ge i n with hi | hi
  · have h1 : ¬ n = i := by omega
    simp [h1, show i < 32 by omega]
  · rw [Nat.testBit_lt_two_pow (Nat.lt_of_lt_of_le ho (Nat.pow_le_pow_right (by decide) hi))]; rfl
/-- the jar is there -/
theorem k_D_put {K : Ii} {B : Nat → Nat} {r : Nat → Int32} {n m p : Nat} {lq pl sp so se : Int32} (h : k_D K r n m) (hn : n < 10) (hm : m ≤ 10) (c12 : K 12 n = lq) (c13 : K 13 n = se) (c14 : ∀ t, t < 6 → K 14 (n * 6 + t) = nI (B (p + t)) - 48) (c33 : K 33 n = pl) (c34 : K 34 n = sp) (c35 : K 35 n = so) (c36 : K 36 n = nI n) : k_D (q_w K 11 0 (nI (n + 1))) (C_put B p n lq pl sp so se r) (n + 1) m := by
  obtain ⟨⟨s1, s2, s3, s4, s5, s6, s7, s8, s9, s10, s11, s12, s13⟩, t1, t2, t3, t4, t5, t6, t7, t8, o, t9, t10, t11⟩ := h
  obtain ⟨f0, f1, f2, f3, f4, f5, f6⟩ := C_put_f B p n lq pl sp so se r
  have u := C_put_o B p n lq pl sp so se r
  have w : ∀ a, a ≠ 11 → (q_w K 11 0 (nI (n + 1))) a = K a := fun a ha => z_w_a _ _ _ _ _ ha
  have w1 : ∀ k, k ≠ 0 → (q_w K 11 0 (nI (n + 1))) 11 k = K 11 k := fun k hk => z_w_k _ _ _ _ _ hk
  refine ⟨⟨?_, ?_, ?_, ?_, ?_, ?_, ?_, ?_, ?_, ?_, ?_, ?_, ?_⟩, ?_, ?_, ?_, ?_, ?_, ?_, ?_, ?_, o, ?_, ?_, ?_⟩
  · rw [z_w_s, C_put_3]
  · rw [w1 _ (by omega), u 4 (by omega) (by omega)]; exact s2
  · rw [w1 _ (by omega), u 5 (by omega) (by omega)]; exact s3
  · rw [w1 _ (by omega), u 6 (by omega) (by omega)]; exact s4
  · rw [w1 _ (by omega), u 7 (by omega) (by omega)]; exact s5
  · rw [w1 _ (by omega), u 0 (by omega) (by omega)]; exact s6
  · intro j hj
    rw [w _ (by omega)]
    by_cases e : j = n
    · subst e; rw [f0]; exact c12
    · rw [u _ (by omega) (by omega)]; exact s7 j (by omega)
  · intro j hj
    rw [w _ (by omega)]
    by_cases e : j = n
    · subst e; rw [f4]; exact c13
    · rw [u _ (by omega) (by omega)]; exact s8 j (by omega)
  · intro j t hj ht
    rw [w _ (by omega)]
    by_cases e : j = n
    · subst e; rw [C_put_t _ _ _ _ _ _ _ _ _ _ ht]; exact c14 t ht
    · rw [u _ (by omega) (by omega)]; exact s9 j t (by omega) ht
  · intro q hq; rw [w _ (by omega), u _ (by omega) (by omega)]; exact s10 q hq
  · intro q hq; rw [w _ (by omega), u _ (by omega) (by omega)]; exact s11 q hq
  · intro q hq; rw [w _ (by omega), u _ (by omega) (by omega)]; exact s12 q hq
  · intro q hq; rw [w _ (by omega), u _ (by omega) (by omega)]; exact s13 q hq
  · rw [w _ (by omega), u 8 (by omega) (by omega)]; exact t1
  · rw [w _ (by omega), u 9 (by omega) (by omega)]; exact t2
  · rw [w _ (by omega), u 11 (by omega) (by omega)]; exact t3
  · rw [w _ (by omega), u 10 (by omega) (by omega)]; exact t4
  · intro j hj
    rw [w _ (by omega)]
    by_cases e : j = n
    · subst e; rw [f1]; exact c33
    · rw [u _ (by omega) (by omega)]; exact t5 j (by omega)
  · intro j hj
    rw [w _ (by omega)]
    by_cases e : j = n
    · subst e; rw [f2]; exact c34
    · rw [u _ (by omega) (by omega)]; exact t6 j (by omega)
  · intro j hj
    rw [w _ (by omega)]
    by_cases e : j = n
    · subst e; rw [f3]; exact c35
    · rw [u _ (by omega) (by omega)]; exact t7 j (by omega)
  · intro j hj
    rw [w _ (by omega)]
    by_cases e : j = n
    · subst e; rw [f5]; exact c36
    · rw [u _ (by omega) (by omega)]; exact t8 j (by omega)
  · rw [Nat.pow_succ]; omega
  · rw [w _ (by omega)]; exact t10
  · intro j hj
    by_cases e : j = n
    · subst e
      rw [f6, Nat.testBit_lt_two_pow t9]
      rfl
    · rw [u _ (by omega) (by omega)]; exact t11 j (by omega)
