/-! ===== THE TAPE: both halves ===== -/
def m_t1 (a k : Nat) : Bool := m_cs a k || a == 1 || a == 2
def m_t2 (a k : Nat) : Bool := m_q a k || (a == 139 && k == 8) || a == 144
theorem m_t1_f {a k : Nat} (h : ¬ (a = 47 ∨ a = 42 ∨ (32 ≤ a ∧ a ≤ 36) ∨ (129 ≤ a ∧ a ≤ 131) ∨ a = 133 ∨ a = 134 ∨ (136 ≤ a ∧ a ≤ 138) ∨ a = 135 ∨ a = 1 ∨ a = 2 ∨ (11 ≤ a ∧ a ≤ 18) ∨ (48 ≤ a ∧ a ≤ 53))) : m_t1 a k = false := by
  have e1 : m_cs a k = false := m_cs_f (by omega)
  have e2 : (a == 1) = false := by simp; omega
  have e3 : (a == 2) = false := by simp; omega
  simp [m_t1, e1, e2, e3]
theorem m_t2_f {a k : Nat} (h : a < 139 ∨ a = 140 ∨ a = 141 ∨ a = 143 ∨ (a = 139 ∧ (k = 3 ∨ k = 6 ∨ k = 13))) : m_t2 a k = false := by
  cases e : m_t2 a k
  · rfl
  · exfalso
    simp [m_t2, m_q, m_r] at e
    omega
theorem INV_tp {I J K : Ii} {B : Nat → Nat} {N : Nat} (h : INV I) (h1 : z_fr m_t1 I J) (h2 : z_fr m_t2 J K) (hA : z_Ta K B N) (hR : z_Tr K B N) (h3 : z_01b (K 139 17)) : INV K := by
  obtain ⟨⟨n, m, G, p, z, H, c1, c2, c3, c4, c5, c6⟩, -, hi, o1, o2⟩ := h
  have lo : ∀ a, a < 139 → K a = J a := fun a ha => funext (fun k => h2 a k (m_t2_f (by omega)))
  have hi' : ∀ a, 139 ≤ a → J a = I a := fun a ha => funext (fun k => h1 a k (m_t1_f (by omega)))
  have er : ∀ a, (a = 0 ∨ (19 ≤ a ∧ a ≤ 26) ∨ (37 ≤ a ∧ a ≤ 41) ∨ (54 ≤ a ∧ a ≤ 58) ∨ a = 63) → K a = I a := fun a ha => (lo a (by omega)).trans (funext (fun k => h1 a k (m_t1_f (by omega))))
  have e140 : K 140 = I 140 := (funext (fun k => h2 140 k (m_t2_f (by omega)))).trans (hi' 140 (by omega))
  have e141 : K 141 = I 141 := (funext (fun k => h2 141 k (m_t2_f (by omega)))).trans (hi' 141 (by omega))
  have e143 : K 143 = I 143 := (funext (fun k => h2 143 k (m_t2_f (by omega)))).trans (hi' 143 (by omega))
  have e139 : ∀ k, (k = 3 ∨ k = 6 ∨ k = 13) → K 139 k = I 139 k := fun k hk => (h2 139 k (m_t2_f (by omega))).trans (by rw [hi' 139 (by omega)])
  have kS : k_S J n m G p z H := by
    have f0 : z_fr m_cs I (fun a k => if a = 1 ∨ a = 2 then I a k else J a k) := by
      intro a k hm
      dsimp only
      by_cases e : a = 1 ∨ a = 2
      · rw [if_pos e]
      · rw [if_neg e]
        exact h1 a k (by
          have e2 : (a == 1) = false := by simp; omega
          have e3 : (a == 2) = false := by simp; omega
          simp [m_t1, hm, e2, e3])
    have k0 := k_S_cs c1 f0
    have row : ∀ a, 3 ≤ a → J a = (fun a k => if a = 1 ∨ a = 2 then I a k else J a k) a := fun a ha => by
      funext k
      dsimp only
      rw [if_neg (by omega)]
    exact k_S_fr k0 (fun a x y => row a (by omega)) (congrFun (row 42 (by omega)) 0) (fun a x y => row a (by omega)) (fun a x y => row a (by omega)) ⟨congrFun (row 64 (by omega)) 1, congrFun (row 64 (by omega)) 2⟩ (fun a x y => row a (by omega)) (row 61 (by omega))
  exact ⟨⟨n, m, G, p, z, H, k_S_ref kS lo, e140.trans c2, by rw [e139 6 (by omega)]; exact c3, fun i hi k hk => by rw [e143]; exact c4 i hi k hk, c5, fun k hk => by rw [e140]; exact c6 k hk⟩, ⟨B, N, hA, hR⟩, J_i_e hi (by rw [er 0 (by omega)]) (e139 3 (by omega)) e141 (fun a x y => er a (by omega)) (fun a x y => er a (by omega)) (fun a x y => er a (by omega)) (er 63 (by omega)), by rw [er 0 (by omega), e139 13 (by omega)]; exact o1, h3⟩
theorem z_t1_hi {I J : Ii} (h : z_fr m_t1 I J) : ∀ a, 139 ≤ a → J a = I a := fun a ha => funext (fun k => h a k (m_t1_f (by omega)))
theorem z_t2_lo {J K : Ii} (h : z_fr m_t2 J K) : ∀ a, a < 139 → K a = J a := fun a ha => funext (fun k => h a k (m_t2_f (by omega)))
theorem INV_keep1 {I J K : Ii} {X : Sx} {d m : Nat} {args : List Value} {T T' : Tt} {o : Ou} (h : INV I) (h1 : z_fr m_t1 I J) (hq : q_call X q_sb q_pg d m args (q_Z0, J, T) = some (o, (q_Z0, K, T'))) : z_01b (K 139 17) := p_keep hq (by rw [z_t1_hi h1 139 (by omega)]; exact h.2.2.2.2)
theorem z_qt_t2 {J K : Ii} (h : z_fr m_qt J K) : z_fr m_t2 J K := z_fr_m h (fun a k h => by
  simp [m_qt] at h
  rcases h with h | h <;> simp [m_t2, h])
theorem z_cs_t1 {I J : Ii} (h : z_fr m_cs I J) : z_fr m_t1 I J := z_fr_m h (fun a k h => by simp [m_t1, h])
/-- the tape was taken -/
theorem INV_t0 {I J K : Ii} (h : INV I) (h1 : z_fr m_t1 I J) (h2 : z_fr m_t2 J K) (e1 : J 1 1 = 0) (e8 : K 139 8 = 0) (h3 : z_01b (K 139 17)) : INV K := INV_tp (B := fun _ => 0) (N := 0) h h1 h2 ⟨by omega, by rw [z_t2_lo h2 1 (by omega)]; exact e1, fun k hk => absurd hk (Nat.not_lt_zero _)⟩ ⟨e8, fun k hk => absurd hk (Nat.not_lt_zero _)⟩ h3
theorem z_set_ne (p : Nat → Bool) (n : Nat) (hn : n ≤ 10) : ¬ z_set p n = -1 := by
  obtain ⟨x, h1, h2, -⟩ := z_set_n p n (by omega)
  have := b_1024 hn
  rw [h2, z_ne_m1 x (by omega)]
  exact id
theorem S_22 (X : Sx) (d i : Nat) : S_ok X d i 22 := by
  intro o5 o6 I T hX hi h
  obtain ⟨n, m, h27⟩ := INV_27 h
  have hn := h27.1.2.1
  obtain ⟨-, ⟨B, N, t1, t2⟩, -⟩ := id h
  by_cases hg : R_good B N = true
  · obtain ⟨J, a1, a2⟩ := k_Xtastes1 X (d + 37) I T (I 140) n m (j_b (X.2 (i + 1))) h27 t1 hg
    have f1 : z_fr m_t1 I (q_w J 1 1 0) := z_fr_w (z_cs_t1 a2) 1 1 _ rfl
    have e140 : (q_w J 1 1 0) 140 = I 140 := z_t1_hi f1 140 (by omega)
    obtain ⟨K, b1, b2, b3, b4⟩ := l_tastes X (d + 13) (q_w J 1 1 0) (q_tl T 150 0 _) n N B (j_b (X.2 (i + 1))) (by rw [e140]; exact H27_g h27) (by rw [z_t1_hi f1 139 (by omega)]; exact t2.1) t1.1 (fun k hk => ⟨by rw [z_t1_hi f1 144 (by omega)]; exact t2.2 k hk, (t1.2.2 k hk).1⟩)
    rw [e140] at b1 b3
    have ne : ¬ R_ts (I 140) B N n (if j_b (X.2 (i + 1)) = 0 then 0 else 1) = -1 := by
      unfold R_ts
      rw [if_pos hg]
      exact z_set_ne _ n hn
    rw [if_neg ne] at b1
    rw [z_b, if_neg ne] at b3
    exact ⟨K, jy_22 X d i o5 o6 I _ K T _ hX hi a1 b1 b3, INV_t0 h f1 (z_qt_t2 b4) (z_w_s _ _ _ _) b2 (INV_keep1 h f1 b1)⟩
  · have a1 := k_Xtastes0 X (d + 37) I T (j_b (X.2 (i + 1))) t1 hg
    have f1 : z_fr m_t1 I (q_w I 1 1 0) := z_fr_w (z_fr_r _ _) 1 1 _ rfl
    have e140 : (q_w I 1 1 0) 140 = I 140 := z_t1_hi f1 140 (by omega)
    obtain ⟨K, b1, b2, b3, b4⟩ := l_tastes X (d + 13) (q_w I 1 1 0) (q_tt T) n N B (j_b (X.2 (i + 1))) (by rw [e140]; exact H27_g h27) (by rw [z_t1_hi f1 139 (by omega)]; exact t2.1) t1.1 (fun k hk => ⟨by rw [z_t1_hi f1 144 (by omega)]; exact t2.2 k hk, (t1.2.2 k hk).1⟩)
    have ee : R_ts ((q_w I 1 1 0) 140) B N n (if j_b (X.2 (i + 1)) = 0 then 0 else 1) = -1 := by
      unfold R_ts
      rw [if_neg hg]
    rw [if_pos ee] at b1
    rw [z_b, if_pos ee] at b3
    exact ⟨K, jn_22_0 X d i o5 o6 I _ K T 0 hX hi a1 b1 b3, INV_t0 h f1 (z_qt_t2 b4) (z_w_s _ _ _ _) b2 (INV_keep1 h f1 b1)⟩
theorem S_23 (X : Sx) (d i : Nat) : S_ok X d i 23 := by
  intro o5 o6 I T hX hi h
  obtain ⟨n, m, h27⟩ := INV_27 h
  have hn := h27.1.2.1
  obtain ⟨-, ⟨B, N, t1, t2⟩, -⟩ := id h
  by_cases hg : R_good B N = true
  · obtain ⟨J, a1, a2, a3⟩ := k_Xnext1 X (d + 37) I T (I 140) n m h27 t1 hg
    rw [R_nxt_11 _ _ hn] at a1
    have f1 : z_fr m_t1 I J := z_fr_m a2 (fun a k h => by
      simp only [Bool.or_eq_true, Bool.and_eq_true] at h
      rcases h with h | ⟨h, -⟩
      · simp [m_t1, h]
      · simp [m_t1, h])
    have e140 : J 140 = I 140 := z_t1_hi f1 140 (by omega)
    obtain ⟨K, b1, b2, b3, b4⟩ := l_next X (d + 13) J (q_tl T 150 0 _) n N B (by rw [e140]; exact H27_g h27) (by rw [z_t1_hi f1 139 (by omega)]; exact t2.1) t1.1 (fun k hk => ⟨by rw [z_t1_hi f1 144 (by omega)]; exact t2.2 k hk, (t1.2.2 k hk).1⟩)
    rw [e140] at b1 b3
    have ne : ¬ R_ts (I 140) B N n 0 = -1 := by
      unfold R_ts
      rw [if_pos hg]
      exact z_set_ne _ n hn
    rw [if_neg ne] at b1
    rw [z_b, if_neg ne] at b3
    exact ⟨K, jy_23 X d i o5 o6 I _ K T _ hX hi a1 b1 b3, INV_t0 h f1 (z_qt_t2 b4) a3 b2 (INV_keep1 h f1 b1)⟩
  · have a1 := k_Xnext0 X (d + 37) I T t1 hg
    have f1 : z_fr m_t1 I (q_w I 1 1 0) := z_fr_w (z_fr_r _ _) 1 1 _ rfl
    have e140 : (q_w I 1 1 0) 140 = I 140 := z_t1_hi f1 140 (by omega)
    obtain ⟨K, b1, b2, b3, b4⟩ := l_next X (d + 13) (q_w I 1 1 0) (q_tt T) n N B (by rw [e140]; exact H27_g h27) (by rw [z_t1_hi f1 139 (by omega)]; exact t2.1) t1.1 (fun k hk => ⟨by rw [z_t1_hi f1 144 (by omega)]; exact t2.2 k hk, (t1.2.2 k hk).1⟩)
    have ee : R_ts ((q_w I 1 1 0) 140) B N n 0 = -1 := by
      unfold R_ts
      rw [if_neg hg]
    rw [if_pos ee] at b1
    rw [z_b, if_pos ee] at b3
    exact ⟨K, jn_23_0 X d i o5 o6 I _ K T 0 hX hi a1 b1 b3, INV_t0 h f1 (z_qt_t2 b4) (z_w_s _ _ _ _) b2 (INV_keep1 h f1 b1)⟩
theorem S_0 (X : Sx) (d i : Nat) : S_ok X d i 0 := by
  intro o5 o6 I T hX hi h
  obtain ⟨-, ⟨B, N, t1, t2⟩, -⟩ := id h
  by_cases hN : N + 20 ≤ 400
  · obtain ⟨J, a1, a2, a3⟩ := k_feed1 X (d + 48) I T (X.2 (i + 1)) (X.2 (i + 2)) (X.2 (i + 3)) (X.2 (i + 4)) (X.2 (i + 5)) t1 hN
    have f1 : z_fr m_t1 I J := z_fr_m a2 (fun a k h => by
      simp [m_fe] at h
      rcases h with h | h <;> simp [m_t1, h])
    obtain ⟨K, b1, b2, b3, b4⟩ := l_feed1 X (d + 49) J T (X.2 (i + 1)) (X.2 (i + 2)) (X.2 (i + 3)) (X.2 (i + 4)) (X.2 (i + 5)) (z_Tr_e t2 (by rw [z_t1_hi f1 139 (by omega)]) (z_t1_hi f1 144 (by omega))) hN
    have f2 : z_fr m_t2 J K := z_fr_m b2 (fun a k h => by
      simp at h
      rcases h with h | ⟨h, h2 | h2⟩ <;> simp [m_t2, m_q, *])
    exact ⟨K, jy_0 X d i o5 o6 I J K T _ hX hi a1 b1, INV_tp h f1 f2 (z_Ta_e a3 (by rw [z_t2_lo f2 1 (by omega)]) (z_t2_lo f2 2 (by omega))) b4 (INV_keep1 h f1 b1)⟩
  · exact ⟨_, jy_0 X d i o5 o6 I I _ T _ hX hi (k_feed0 X (d + 48) I T _ _ _ _ _ t1 hN) (l_feed0 X (d + 49) I T _ _ _ _ _ t2 t1.1 hN), INV_0 h _⟩
theorem S_1 (X : Sx) (d i : Nat) : S_ok X d i 1 := by
  intro o5 o6 I T hX hi h
  obtain ⟨-, ⟨B, N, t1, t2⟩, -⟩ := id h
  have hN := t1.1
  rcases z_yn (X.2 (i + 1)) (N + 1) (by omega) with ⟨k, hk, ek⟩ | hv
  · obtain ⟨a1, a2⟩ := k_end1 X (d + 49) I T t1 k (by omega)
    have f1 : z_fr m_t1 I (q_w I 1 1 (nI k)) := z_fr_w (z_fr_r _ _) 1 1 _ rfl
    obtain ⟨b1, b2⟩ := l_end1 X (d + 48) (q_w I 1 1 (nI k)) T (z_Tr_e t2 (by rw [z_t1_hi f1 139 (by omega)]) (z_t1_hi f1 144 (by omega))) hN k (by omega)
    have f2 : z_fr m_t2 (q_w I 1 1 (nI k)) (q_w (q_w (q_w I 1 1 (nI k)) 139 0 0) 139 8 (nI k)) := z_fr_w (z_fr_w (z_fr_r _ _) 139 0 _ rfl) 139 8 _ rfl
    exact ⟨_, jy_1 X d i o5 o6 I _ _ T _ hX hi (by rw [ek]; exact a1) (by rw [ek]; exact b1), INV_tp h f1 f2 (z_Ta_e a2 (by rw [z_t2_lo f2 1 (by omega)]) (z_t2_lo f2 2 (by omega))) b2 (INV_keep1 h f1 b1)⟩
  · have hv' : X.2 (i + 1) < 0 ∨ nI N < X.2 (i + 1) := by
      rcases hv with hv | hv
      · exact .inl hv
      · refine .inr ?_
        rw [Int32.lt_iff_toInt_lt]
        rw [Int32.le_iff_toInt_le] at hv
        have e1 : (nI (N + 1)).toInt = (N + 1 : Nat) := nI_toInt (by omega)
        have e2 : (nI N).toInt = (N : Nat) := nI_toInt (by omega)
        omega
    exact ⟨_, jy_1 X d i o5 o6 I I _ T _ hX hi (k_end0 X (d + 49) I T t1 _ hv') (l_end0 X (d + 48) I T t2 _ hv'), INV_0 h _⟩
theorem S_4 (X : Sx) (d i : Nat) : S_ok X d i 4 := by
  intro o5 o6 I T hX hi h
  have o1 := h.2.2.2.1
  have a1 := k_fault X (d + 49) I T
  rw [o1] at a1
  exact ⟨_, jy_4 X d i o5 o6 I I _ T _ hX hi a1 (l_fault X (d + 49) I T), INV_0 h _⟩
