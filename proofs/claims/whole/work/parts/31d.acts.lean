/-! ===== ACTS: both halves ===== -/
theorem m_ac_f {a k : Nat} (h : a = 0 ∨ a = 2 ∨ (a = 1 ∧ k = 1) ∨ (19 ≤ a ∧ a ≤ 26) ∨ (37 ≤ a ∧ a ≤ 41) ∨ (54 ≤ a ∧ a ≤ 58) ∨ a = 63 ∨ 139 ≤ a) : m_ac a k = false := by
  cases e : m_ac a k
  · rfl
  · exfalso
    simp [m_ac, m_hi, m_cs, m_la] at e
    omega
theorem m_act_f {a k : Nat} (h : a < 139 ∨ a = 141 ∨ a = 144 ∨ (a = 139 ∧ (k = 3 ∨ k = 8 ∨ k = 13))) : m_act a k = false := by
  cases e : m_act a k
  · rfl
  · exfalso
    simp [m_act, m_q, m_r] at e
    omega
theorem INV_act {I J K : Ii} {n m : Nat} {G G' : Nat → Nat} {p p' z : Nat} {H : Nat → Nat → Int32} {r' : Nat → Int32} (hc : J_c I n m G p z H) (h : INV I) (h1 : z_fr m_ac I J) (hS : k_S J n m G' p' (k_z z) (k_up (k_z z) (k_H' z H) r')) (hd : z_done J K z r') (hr : R_hi (H z) r') (h3 : z_01b (K 139 17)) : INV K := by
  obtain ⟨c1, c2, c3, c4, c5, c6⟩ := hc
  obtain ⟨-, ⟨B, N, t1, t2⟩, hi, o1, o2⟩ := h
  obtain ⟨⟨d1, d2, d3⟩, d4, d5, d6⟩ := hd
  have hz := c1.2.1
  have zz : k_z z = min z 11 + 1 ∧ k_sh z = z - min z 11 := by unfold k_z k_sh; split <;> omega
  have up : ∀ i, k_up (k_z z) (k_H' z H) r' i = if i = k_z z then r' else if i < k_z z then H (i + k_sh z) else H z := fun i => by
    unfold k_up k_H'
    rfl
  have lo : ∀ a, a < 139 → K a = J a := fun a ha => funext (fun k => d4 a k (m_act_f (by omega)))
  have hi' : ∀ a, 139 ≤ a → J a = I a := fun a ha => funext (fun k => h1 a k (m_ac_f (by omega)))
  have er : ∀ a, (a = 0 ∨ a = 2 ∨ (19 ≤ a ∧ a ≤ 26) ∨ (37 ≤ a ∧ a ≤ 41) ∨ (54 ≤ a ∧ a ≤ 58) ∨ a = 63) → K a = I a := fun a ha => (lo a (by omega)).trans (funext (fun k => h1 a k (m_ac_f (by omega))))
  have e141 : K 141 = I 141 := (funext (fun k => d4 141 k (m_act_f (by omega)))).trans (hi' 141 (by omega))
  have e144 : K 144 = I 144 := (funext (fun k => d4 144 k (m_act_f (by omega)))).trans (hi' 144 (by omega))
  have e139 : ∀ k, (k = 3 ∨ k = 8 ∨ k = 13) → K 139 k = I 139 k := fun k hk => (d4 139 k (m_act_f (by omega))).trans (by rw [hi' 139 (by omega)])
  refine ⟨⟨n, m, G', p', k_z z, _, k_S_ref hS lo, ?_, ?_, ?_, ?_, ?_⟩, ⟨B, N, z_Ta_e t1 (by rw [lo 1 (by omega), h1 1 1 (m_ac_f (by omega))]) (er 2 (by omega)), z_Tr_e t2 (e139 8 (by omega)) e144⟩, J_i_e hi (by rw [er 0 (by omega)]) (e139 3 (by omega)) e141 (fun a x y => er a (by omega)) (fun a x y => er a (by omega)) (fun a x y => er a (by omega)) (er 63 (by omega)), by rw [er 0 (by omega), e139 13 (by omega)]; exact o1, h3⟩
  · rw [d5, up, if_pos rfl]
  · rw [d1, zz.1]
  · intro i hi2 k hk
    rw [up, if_neg (by omega), if_pos hi2]
    by_cases e : i = min z 11
    · subst e
      rw [d3 k hk, hi' 140 (by omega), c2, show min z 11 + k_sh z = z by omega]
    · rw [d2 i k (by omega) hk, hi' 143 (by omega), show i + k_sh z = i + (z - min z 11) by omega]
      exact c4 _ (by omega) k hk
  · intro i hi2 k hk
    rw [up, up, if_neg (by omega), if_pos hi2, if_pos rfl, hr k hk]
    by_cases e : i + k_sh z = z
    · rw [e]
    · exact c5 _ (by omega) k hk
  · intro k hk
    rw [d5, hr k (by omega), ← c2]; exact c6 k hk
theorem z_ac_hi {I J : Ii} (h : z_fr m_ac I J) : ∀ a, 139 ≤ a → J a = I a := fun a ha => funext (fun k => h a k (m_ac_f (by omega)))
theorem R_hi_log {r s : Nat → Int32} {j o t a : Int32} (h : R_hi r s) : R_hi r (R_log j o t a s) := by
  intro k hk
  unfold R_log
  rw [if_neg (by omega), if_neg (by omega), if_neg (by omega), if_neg (by omega), if_neg (by omega), if_neg (by omega), if_neg (by omega)]
  exact h k hk
theorem R_hi_take {r s : Nat → Int32} {j : Nat} (hj : j < 10) (h : R_hi r s) : R_hi r (R_take j s) := R_hi_up (R_hi_up h (by omega) _) (by omega) _
theorem R_hi_mov {r s : Nat → Int32} {n j : Nat} {p : Int32} (hn : n ≤ 10) (hj : j < n) (h : R_hi r s) : R_hi r (R_mov s n j p) := by
  unfold R_mov
  split
  · exact h
  · split
    · exact R_hi_up (R_hi_up h (by omega) _) (by omega) _
    · exact R_hi_up h (by omega) _
/-- what acts begin with -/
theorem INV_C {I : Ii} (h : INV I) : ∃ n m G p z H, J_c I n m G p z H ∧ k_H27 I (H z) n m ∧ n ≤ 10 ∧ I 3 0 = nI n ∧ z ≤ 12 := by
  obtain ⟨⟨n, m, G, p, z, H, c⟩, -⟩ := h
  have h27 := k_S_27 c.1
  exact ⟨n, m, G, p, z, H, c, h27, h27.1.2.1, k_n3 h27, c.1.2.1⟩
theorem INV_keep {I J K : Ii} {X : Sx} {d m : Nat} {args : List Value} {T T' : Tt} {o : Ou} (h : INV I) (h1 : z_fr m_ac I J) (hq : q_call X q_sb q_pg d m args (q_Z0, J, T) = some (o, (q_Z0, K, T'))) : z_01b (K 139 17) := p_keep hq (by rw [z_ac_hi h1 139 (by omega)]; exact h.2.2.2.2)
theorem S_9 (X : Sx) (d i : Nat) : S_ok X d i 9 := by
  intro o5 o6 I T hX hi h
  obtain ⟨n, m, G, p, z, H, c, h27, hn, n3, hz⟩ := INV_C h
  have e140 := c.2.1
  have hg : R_g n (I 140) := by rw [e140]; exact H27_g h27
  have i3 : I 140 3 = nI n := by rw [e140]; exact h27.1.1
  have no1 : (z_no (X.2 (i + 1)) n ∨ (∃ k, k < n ∧ X.2 (i + 1) = nI k) ∧ z_no (X.2 (i + 2)) 6) → ∃ K, j_go X d i 9 o5 o6 I T K ∧ INV K := fun hv => by
    have hv' : (1 : Int32) = 1 ∧ z_no (X.2 (i + 1)) n ∨ (1 : Int32) = 1 ∧ (∃ k, k < n ∧ X.2 (i + 1) = nI k) ∧ z_no (X.2 (i + 2)) 6 ∨ (1 : Int32) = 2 ∧ ∃ j t, j < n ∧ t < 6 ∧ X.2 (i + 1) = nI j ∧ X.2 (i + 2) = nI t ∧ (I 140) (12 + 13 * j + 2) = 0 := by
      rcases hv with hv | hv
      · exact .inl ⟨rfl, hv⟩
      · exact .inr (.inl ⟨rfl, hv⟩)
    exact ⟨_, jn_9_2 X d i o5 o6 I I _ T 0 hX hi (k_Xask0 X (d + 37) I T (I 140) n m (by rw [e140]; exact h27) _ _ 1 hv') (l_ask0 X (d + 14) I _ n _ _ 1 i3 hn hv') (z_w_s _ _ _ _), INV_0 h _⟩
  rcases z_yn (X.2 (i + 1)) n (by omega) with ⟨j, hj, ej⟩ | hv
  · rcases z_yn (X.2 (i + 2)) 6 (by omega) with ⟨t, ht, et⟩ | hv
    · by_cases hs : H z (12 + 13 * j + 2) = 0
      · have hv' : (2 : Int32) = 1 ∧ z_no (X.2 (i + 1)) n ∨ (2 : Int32) = 1 ∧ (∃ k, k < n ∧ X.2 (i + 1) = nI k) ∧ z_no (X.2 (i + 2)) 6 ∨ (2 : Int32) = 2 ∧ ∃ j t, j < n ∧ t < 6 ∧ X.2 (i + 1) = nI j ∧ X.2 (i + 2) = nI t ∧ (I 140) (12 + 13 * j + 2) = 0 := .inr (.inr ⟨rfl, j, t, hj, ht, ej, et, by rw [e140]; exact hs⟩)
        exact ⟨_, jn_9_4 X d i o5 o6 I I _ T 0 hX hi (k_Xask0 X (d + 37) I T (I 140) n m (by rw [e140]; exact h27) _ _ 2 hv') (l_ask0 X (d + 14) I _ n _ _ 2 i3 hn hv') (z_w_s _ _ _ _), INV_0 h _⟩
      · obtain ⟨J, a1, a2, a3⟩ := k_Xask1 X (d + 37) I T n m G p z H c.1 j t hj ht hs
        have j140 : J 140 = H z := (z_ac_hi a2 140 (by omega)).trans e140
        obtain ⟨K, b1, b2⟩ := l_ask1 X (d + 14) J (q_tl T 150 0 _) n j t z (by rw [j140]; exact H27_g h27) hz (by rw [z_ac_hi a2 139 (by omega)]; exact c.2.2.1) hj ht (by rw [j140]; exact hs)
        rw [j140] at b1 b2
        exact ⟨K, jy_9 X d i o5 o6 I J K T _ hX hi (by rw [ej, et]; exact a1) (by rw [ej, et]; exact b1) b2.2.2.2, INV_act c h a2 a3 b2 (R_hi_log (R_hi_take (by omega) (R_hi_r _))) (INV_keep h a2 b1)⟩
    · exact no1 (.inr ⟨⟨j, hj, ej⟩, hv⟩)
  · exact no1 (.inl hv)
theorem S_10 (X : Sx) (d i : Nat) : S_ok X d i 10 := by
  intro o5 o6 I T hX hi h
  obtain ⟨n, m, G, p, z, H, c, h27, hn, n3, hz⟩ := INV_C h
  have e140 := c.2.1
  have i3 : I 140 3 = nI n := by rw [e140]; exact h27.1.1
  have hI : k_H27 I (I 140) n m := by rw [e140]; exact h27
  obtain ⟨q, hq⟩ := z_two_ex n hn (X.2 (i + 1)) (X.2 (i + 2)) (X.2 (i + 3))
  rcases id hq with ⟨rfl, -⟩ | ⟨rfl, -⟩ | ⟨rfl, j, o, t, hj, ho, hne, ht, e1, e2, e3⟩
  · exact ⟨_, jn_10_2 X d i o5 o6 I I _ T 0 hX hi (k_Xmix0 X (d + 37) I T (I 140) n m hI _ _ _ 1 (.inl ⟨hq, .inl rfl⟩)) (l_mix0 X (d + 13) I _ n _ _ _ 1 i3 hn (.inl ⟨hq, .inl rfl⟩)) (z_w_s _ _ _ _), INV_0 h _⟩
  · exact ⟨_, jn_10_0 X d i o5 o6 I I _ T 0 hX hi (k_Xmix0 X (d + 37) I T (I 140) n m hI _ _ _ 2 (.inl ⟨hq, .inr rfl⟩)) (l_mix0 X (d + 13) I _ n _ _ _ 2 i3 hn (.inl ⟨hq, .inr rfl⟩)) (z_w_s _ _ _ _), INV_0 h _⟩
  · by_cases hs : H z (12 + 13 * j + 2) = 0 ∨ H z (12 + 13 * o + 2) = 0
    · have hs' : I 140 (12 + 13 * j + 2) = 0 ∨ I 140 (12 + 13 * o + 2) = 0 := by rw [e140]; exact hs
      exact ⟨_, jn_10_4 X d i o5 o6 I I _ T 0 hX hi (k_Xmix0 X (d + 37) I T (I 140) n m hI _ _ _ 3 (.inr ⟨rfl, j, o, t, hj, ho, hne, ht, e1, e2, e3, hs'⟩)) (l_mix0 X (d + 13) I _ n _ _ _ 3 i3 hn (.inr ⟨rfl, j, o, t, hj, ho, hne, ht, e1, e2, e3, hs'⟩)) (z_w_s _ _ _ _), INV_0 h _⟩
    · obtain ⟨J, a1, a2, a3⟩ := k_Xmix1 X (d + 37) I T n m G p z H c.1 j o t hj ho hne ht (fun c => hs (.inl c)) (fun c => hs (.inr c))
      have j140 : J 140 = H z := (z_ac_hi a2 140 (by omega)).trans e140
      obtain ⟨K, b1, b2⟩ := l_mix1 X (d + 13) J (q_tl T 150 0 _) n j o t z (by rw [j140]; exact H27_g h27) hz (by rw [z_ac_hi a2 139 (by omega)]; exact c.2.2.1) hj ho hne ht (by rw [j140]; exact fun c => hs (.inl c)) (by rw [j140]; exact fun c => hs (.inr c))
      rw [j140] at b1 b2
      exact ⟨K, jy_10 X d i o5 o6 I J K T _ hX hi (by rw [e1, e2, e3]; exact a1) (by rw [e1, e2, e3]; exact b1) b2.2.2.2, INV_act c h a2 a3 b2 (R_hi_log (R_hi_take (by omega) (R_hi_take (by omega) (R_hi_r _)))) (INV_keep h a2 b1)⟩
theorem S_11 (X : Sx) (d i : Nat) : S_ok X d i 11 := by
  intro o5 o6 I T hX hi h
  obtain ⟨n, m, G, p, z, H, c, h27, hn, n3, hz⟩ := INV_C h
  have e140 := c.2.1
  have i3 : I 140 3 = nI n := by rw [e140]; exact h27.1.1
  rcases z_yn (X.2 (i + 1)) n (by omega) with ⟨j, hj, ej⟩ | hv
  · obtain ⟨J, a1, a2, a3⟩ := k_Xclose1 X (d + 37) I T n m G p z H c.1 j hj
    have j140 : J 140 = H z := (z_ac_hi a2 140 (by omega)).trans e140
    obtain ⟨K, b1, b2⟩ := l_close1 X (d + 47) J (q_tl T 150 0 (if z_b (H z (12 + 13 * j + 6) = 1) = 0 then Int64.ofNat 0 else Int64.ofNat 1)) n j z (by rw [j140]; exact h27.1.1) hn hz (by rw [z_ac_hi a2 139 (by omega)]; exact c.2.2.1) hj
    rw [j140] at b1 b2
    exact ⟨K, jy_11 X d i o5 o6 I J K T _ hX hi (by rw [ej]; exact a1) (by rw [ej]; exact b1) b2.2.2.2, INV_act c h a2 a3 b2 (R_hi_up (R_hi_r _) (by omega) _) (INV_keep h a2 b1)⟩
  · exact ⟨_, jn_11_2 X d i o5 o6 I I _ T 0 hX hi (k_Xclose0 X (d + 37) I T n _ n3 hv) (l_close0 X (d + 47) I _ n _ i3 hn hv) (z_w_s _ _ _ _), INV_0 h _⟩
theorem S_12 (X : Sx) (d i : Nat) : S_ok X d i 12 := by
  intro o5 o6 I T hX hi h
  obtain ⟨n, m, G, p, z, H, c, h27, hn, n3, hz⟩ := INV_C h
  have e140 := c.2.1
  have i3 : I 140 3 = nI n := by rw [e140]; exact h27.1.1
  have no : (z_no (X.2 (i + 1)) n ∨ (∃ j, j < n ∧ X.2 (i + 1) = nI j) ∧ X.2 (i + 2) ≠ -1 ∧ z_no (X.2 (i + 2)) n) → ∃ K, j_go X d i 12 o5 o6 I T K ∧ INV K := fun hv => ⟨_, jn_12_2 X d i o5 o6 I I _ T 0 hX hi (k_Xlabel0 X (d + 37) I T n _ _ n3 hn hv) (l_label0 X (d + 47) I _ n _ _ i3 hn hv) (z_w_s _ _ _ _), INV_0 h _⟩
  rcases z_yn (X.2 (i + 1)) n (by omega) with ⟨j, hj, ej⟩ | hv
  · have yes : (X.2 (i + 2) = -1 ∨ ∃ k, k < n ∧ X.2 (i + 2) = nI k) → ∃ K, j_go X d i 12 o5 o6 I T K ∧ INV K := by
      intro hu
      obtain ⟨J, a1, a2, a3⟩ := k_Xlabel1 X (d + 37) I T n m G p z H c.1 j hj _ hu
      have j140 : J 140 = H z := (z_ac_hi a2 140 (by omega)).trans e140
      obtain ⟨K, b1, b2⟩ := l_label1 X (d + 47) J (q_tl T 150 0 _) n j z _ (by rw [j140]; exact h27.1.1) hn hz (by rw [z_ac_hi a2 139 (by omega)]; exact c.2.2.1) hj hu
      rw [j140] at b1 b2
      exact ⟨K, jy_12 X d i o5 o6 I J K T _ hX hi (by rw [ej]; exact a1) (by rw [ej]; exact b1) b2.2.2.2, INV_act c h a2 a3 b2 (R_hi_up (R_hi_r _) (by omega) _) (INV_keep h a2 b1)⟩
    by_cases hm : X.2 (i + 2) = -1
    · exact yes (.inl hm)
    rcases z_yn (X.2 (i + 2)) n (by omega) with hk | hv
    · exact yes (.inr hk)
    · exact no (.inr ⟨⟨j, hj, ej⟩, hm, hv⟩)
  · exact no (.inl hv)
theorem S_13 (X : Sx) (d i : Nat) : S_ok X d i 13 := by
  intro o5 o6 I T hX hi h
  obtain ⟨n, m, G, p, z, H, c, h27, hn, n3, hz⟩ := INV_C h
  have e140 := c.2.1
  have i3 : I 140 3 = nI n := by rw [e140]; exact h27.1.1
  have no : (z_no (X.2 (i + 1)) n ∨ (∃ j, j < n ∧ X.2 (i + 1) = nI j) ∧ z_no (X.2 (i + 2)) 12) → ∃ K, j_go X d i 13 o5 o6 I T K ∧ INV K := fun hv => ⟨_, jn_13_2 X d i o5 o6 I I _ T 0 hX hi (k_Xmove0 X (d + 37) I T n _ _ n3 hn hv) (l_move0 X (d + 47) I _ n _ _ i3 hn hv) (z_w_s _ _ _ _), INV_0 h _⟩
  rcases z_yn (X.2 (i + 1)) n (by omega) with ⟨j, hj, ej⟩ | hv
  · rcases z_yn (X.2 (i + 2)) 12 (by omega) with ⟨q, hq, eq⟩ | hv
    · obtain ⟨J, a1, a2, a3⟩ := k_Xmove1 X (d + 37) I T n m G p z H c.1 j q hj hq
      have j140 : J 140 = H z := (z_ac_hi a2 140 (by omega)).trans e140
      obtain ⟨K, b1, b2⟩ := l_move1 X (d + 47) J (q_tl T 150 0 _) n j q z (by rw [j140]; exact h27.1.1) hn hz (by rw [z_ac_hi a2 139 (by omega)]; exact c.2.2.1) hj hq
      rw [j140] at b1 b2
      exact ⟨K, jy_13 X d i o5 o6 I J K T _ hX hi (by rw [ej, eq]; exact a1) (by rw [ej, eq]; exact b1) b2.2.2.2, INV_act c h a2 a3 b2 (R_hi_mov hn hj (R_hi_r _)) (INV_keep h a2 b1)⟩
    · exact no (.inr ⟨⟨j, hj, ej⟩, hv⟩)
  · exact no (.inl hv)
theorem S_14 (X : Sx) (d i : Nat) : S_ok X d i 14 := by
  intro o5 o6 I T hX hi h
  obtain ⟨n, m, G, p, z, H, c, h27, hn, n3, hz⟩ := INV_C h
  have e140 := c.2.1
  have no : (X.2 (i + 1) < 1 ∨ 50 < X.2 (i + 1)) → ∃ K, j_go X d i 14 o5 o6 I T K ∧ INV K := fun hv => ⟨_, jn_14_0 X d i o5 o6 I I _ T 0 hX hi (k_Xyears0 X (d + 37) I T _ hv) (l_years0 X (d + 12) I _ _ hv) (z_w_s _ _ _ _), INV_0 h _⟩
  rcases z_yn (X.2 (i + 1)) 51 (by omega) with ⟨q, hq, eq⟩ | hv
  · by_cases h0 : q = 0
    · exact no (.inl (by rw [eq, h0]; decide))
    · obtain ⟨J, a1, a2, a3⟩ := k_Xyears1 X (d + 37) I T n m G p z H c.1 q (by omega) (by omega)
      have j140 : J 140 = H z := (z_ac_hi a2 140 (by omega)).trans e140
      obtain ⟨K, b1, b2⟩ := l_years1 X (d + 12) J (q_tl T 150 0 _) n q z (by rw [j140]; exact H27_g h27) hz (by rw [z_ac_hi a2 139 (by omega)]; exact c.2.2.1) (by omega) (by omega)
      rw [j140] at b1 b2
      exact ⟨K, jy_14 X d i o5 o6 I J K T _ hX hi (by rw [eq]; exact a1) (by rw [eq]; exact b1) b2.2.2.2, INV_act c h a2 a3 b2 (R_hi_pass hn (R_hi_r _)) (INV_keep h a2 b1)⟩
  · refine no ?_
    rcases hv with hv | hv
    · refine .inl ?_
      rw [Int32.lt_iff_toInt_lt] at hv ⊢
      have e0 : (0 : Int32).toInt = 0 := rfl
      have e1 : (1 : Int32).toInt = 1 := rfl
      omega
    · refine .inr ?_
      have e51 : (nI 51).toInt = 51 := by decide
      have e50 : (50 : Int32).toInt = 50 := rfl
      rw [Int32.le_iff_toInt_le] at hv
      rw [Int32.lt_iff_toInt_lt]
      omega
