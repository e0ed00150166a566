/-! ===== IMAGE, BACK, THE TWO TEXTS: both halves ===== -/
theorem m_im_f {a k : Nat} (h : ¬ ((19 ≤ a ∧ a ≤ 26) ∨ (37 ≤ a ∧ a ≤ 41) ∨ (54 ≤ a ∧ a ≤ 58) ∨ a = 63 ∨ (a = 0 ∧ k = 18))) : m_im a k = false := by
  cases e : m_im a k
  · rfl
  · exfalso
    simp [m_im] at e
    omega
theorem S_45 (X : Sx) (d i : Nat) : S_ok X d i 45 := by
  intro o5 o6 I T hX hi h
  obtain ⟨n, m, G, p, z, H, c, h27, hn, n3, hz⟩ := INV_C h
  obtain ⟨c1, c2, c3, c4, c5, c6⟩ := id c
  obtain ⟨-, ⟨B, N, t1, t2⟩, hi4, o1, o2⟩ := id h
  obtain ⟨J, a1, a2, a3, a4, a5⟩ := k_Ximage X (d + 38) I T n m G p z H c1
  have hi' : ∀ a, 139 ≤ a → J a = I a := fun a ha => funext (fun k => a2 a k (m_im_f (by omega)))
  obtain ⟨K, b1, b2, b3, b4, b5⟩ := l_image9 X (d + 49) J T
  have b1' : c_X12_image_139 X (d + 50) J T = z_v K T := b1
  have lo : ∀ a, a ≠ 139 → a ≠ 141 → K a = J a := fun a h1 h2 => funext (fun k => b3 a k (by simp [h1, h2]))
  have k139 : ∀ k, k ≠ 0 → k ≠ 3 → K 139 k = I 139 k := fun k h1 h2 => (b3 139 k (by simp [h1, h2])).trans (by rw [hi' 139 (by omega)])
  have k141 : K 141 = H z := by
    funext k
    rcases Nat.lt_or_ge k 884 with hk | hk
    · rw [b4 k hk, hi' 140 (by omega), c2]
    · rw [b5 k hk, hi' 141 (by omega), hi4.2 k hk, ← c2, c6 k hk]
  have e140 : K 140 = I 140 := (lo 140 (by omega) (by omega)).trans (hi' 140 (by omega))
  refine ⟨K, jy_45 X d i o5 o6 I J K T hX hi a1 b1', ⟨n, m, G, p, z, H, k_S_ref a3 (fun a ha => lo a (by omega) (by omega)), e140.trans c2, by rw [k139 6 (by omega) (by omega)]; exact c3, fun j hj k hk => by rw [lo 143 (by omega) (by omega), hi' 143 (by omega)]; exact c4 j hj k hk, c5, fun k hk => by rw [e140]; exact c6 k hk⟩, ⟨B, N, z_Ta_e t1 (by rw [lo 1 (by omega) (by omega), a2 1 1 (m_im_f (by omega))]) ((lo 2 (by omega) (by omega)).trans (funext (fun k => a2 2 k (m_im_f (by omega))))), z_Tr_e t2 (k139 8 (by omega) (by omega)) ((lo 144 (by omega) (by omega)).trans (hi' 144 (by omega)))⟩, ⟨.inr ⟨by rw [lo 0 (by omega) (by omega)]; exact a5, b2, n, m, G z, by rw [k141]; exact k_Im_e a4 (fun a x y => lo a (by omega) (by omega)) (fun a x y => lo a (by omega) (by omega)) (fun a x y => lo a (by omega) (by omega)) (lo 63 (by omega) (by omega))⟩, fun k hk => by rw [k141, ← c2]; exact c6 k hk⟩, by rw [lo 0 (by omega) (by omega), a2 0 19 (m_im_f (by omega)), k139 13 (by omega) (by omega)]; exact o1, by rw [k139 17 (by omega) (by omega)]; exact o2⟩
theorem S_46 (X : Sx) (d i : Nat) : S_ok X d i 46 := by
  intro o5 o6 I T hX hi h
  obtain ⟨n, m, G, p, z, H, c, h27, hn, n3, hz⟩ := INV_C h
  obtain ⟨c1, c2, c3, c4, c5, c6⟩ := id c
  obtain ⟨-, ⟨B, N, t1, t2⟩, hi4, o1, o2⟩ := id h
  rcases hi4.1 with ⟨i1, i2⟩ | ⟨i1, i2, n', m', g, i3⟩
  · exact ⟨_, jy_46 X d i o5 o6 I I _ T _ hX hi (k_Xback0 X (d + 38) I T i1) (l_back0 X (d + 49) I T i2), INV_0 h _⟩
  · obtain ⟨J, a1, a2, a3⟩ := k_Xback1 X (d + 38) I T n' m' g p (I 141) i1 i3 c1.1 c1.2.2.1
    have fJ : ∀ a k, ¬ ((3 ≤ a ∧ a ≤ 10) ∨ (27 ≤ a ∧ a ≤ 31) ∨ (42 ≤ a ∧ a ≤ 46) ∨ a = 61 ∨ (a = 64 ∧ k = 2)) → J a k = I a k := fun a k hc => a2 a k (by
      cases e : ((Nat.ble 3 a && Nat.ble a 10) || (Nat.ble 27 a && Nat.ble a 31) || (Nat.ble 42 a && Nat.ble a 46) || a == 61 || (a == 64 && k == 2))
      · exact e
      · exfalso
        simp at e
        omega)
    have rJ : ∀ a, ¬ ((3 ≤ a ∧ a ≤ 10) ∨ (27 ≤ a ∧ a ≤ 31) ∨ (42 ≤ a ∧ a ≤ 46) ∨ a = 61 ∨ a = 64) → J a = I a := fun a hc => funext (fun k => fJ a k (by omega))
    obtain ⟨K, b1, b2, b3, b4, b5⟩ := l_back9 X (d + 49) J T (by rw [rJ 139 (by omega)]; exact i2)
    have b1' : c_X12_back_139 X (d + 50) J T = z_r 1 K T := b1
    have lo : ∀ a, a ≠ 139 → a ≠ 140 → K a = J a := fun a h1 h2 => funext (fun k => b3 a k (by simp [h1, h2]))
    have k139 : ∀ k, k ≠ 0 → k ≠ 6 → K 139 k = I 139 k := fun k h1 h2 => (b3 139 k (by simp [h1, h2])).trans (by rw [rJ 139 (by omega)])
    have k140 : K 140 = I 141 := by
      funext k
      rcases Nat.lt_or_ge k 884 with hk | hk
      · rw [b4 k hk, rJ 141 (by omega)]
      · rw [b5 k hk, rJ 140 (by omega), c6 k hk, hi4.2 k hk]
    have er : ∀ a, ¬ ((3 ≤ a ∧ a ≤ 10) ∨ (27 ≤ a ∧ a ≤ 31) ∨ (42 ≤ a ∧ a ≤ 46) ∨ a = 61 ∨ a = 64 ∨ a = 139 ∨ a = 140) → K a = I a := fun a ha => (lo a (by omega) (by omega)).trans (rJ a (by omega))
    refine ⟨K, jy_46 X d i o5 o6 I J K T _ hX hi a1 b1', ⟨n', m', _, p, 0, _, k_S_ref a3 (fun a ha => lo a (by omega) (by omega)), k140, b2, fun j hj => absurd hj (Nat.not_lt_zero _), fun j hj => absurd hj (Nat.not_lt_zero _), fun k hk => by rw [k140]; exact hi4.2 k hk⟩, ⟨B, N, z_Ta_e t1 (by rw [er 1 (by omega)]) (er 2 (by omega)), z_Tr_e t2 (k139 8 (by omega) (by omega)) (er 144 (by omega))⟩, J_i_e hi4 (by rw [er 0 (by omega)]) (k139 3 (by omega) (by omega)) (er 141 (by omega)) (fun a x y => er a (by omega)) (fun a x y => er a (by omega)) (fun a x y => er a (by omega)) (er 63 (by omega)), by rw [er 0 (by omega), k139 13 (by omega) (by omega)]; exact o1, by rw [k139 17 (by omega) (by omega)]; exact o2⟩
/-- a text was read -/
theorem INV_rd {I J K : Ii} (h : INV I) (hJ : ∀ a, ((19 ≤ a ∧ a ≤ 26) ∨ (37 ≤ a ∧ a ≤ 41) ∨ (54 ≤ a ∧ a ≤ 58) ∨ a = 63 ∨ 139 ≤ a) → J a = I a) (h18 : J 0 18 = I 0 18) (hK : ∀ a, (a < 139 ∨ a = 141) → K a = J a) (h3 : K 139 3 = J 139 3) (h17 : z_01b (K 139 17)) (hF : J 0 19 = K 139 13) (h1 : J 1 1 = 0) (h8 : K 139 8 = 0) (hc : ∃ n m G p z H, J_c K n m G p z H) : INV K := by
  obtain ⟨-, -, hi4, -, -⟩ := h
  have er : ∀ a, ((19 ≤ a ∧ a ≤ 26) ∨ (37 ≤ a ∧ a ≤ 41) ∨ (54 ≤ a ∧ a ≤ 58) ∨ a = 63) → K a = I a := fun a ha => (hK a (by omega)).trans (hJ a (by omega))
  exact ⟨hc, ⟨fun _ => 0, 0, ⟨by omega, by rw [hK 1 (by omega)]; exact h1, fun k hk => absurd hk (Nat.not_lt_zero _)⟩, ⟨h8, fun k hk => absurd hk (Nat.not_lt_zero _)⟩⟩, J_i_e hi4 (by rw [hK 0 (by omega)]; exact h18) (h3.trans (by rw [hJ 139 (by omega)])) ((hK 141 (by omega)).trans (hJ 141 (by omega))) (fun a x y => er a (by omega)) (fun a x y => er a (by omega)) (fun a x y => er a (by omega)) (er 63 (by omega)), by rw [hK 0 (by omega)]; exact hF, h17⟩
theorem m_cc_f {a k : Nat} (h : (a = 0 ∧ k = 18) ∨ a = 2 ∨ (19 ≤ a ∧ a ≤ 26) ∨ (37 ≤ a ∧ a ≤ 41) ∨ (54 ≤ a ∧ a ≤ 58) ∨ a = 63 ∨ 139 ≤ a) : m_cc a k = false := by
  cases e : m_cc a k
  · rfl
  · exfalso
    simp [m_cc, m_cs, m_la] at e
    omega
theorem m_cab_f {a k : Nat} (h : a < 139 ∨ a = 141 ∨ a = 143 ∨ a = 144 ∨ (a = 139 ∧ (k = 3 ∨ k = 17))) : m_cab a k = false := by
  cases e : m_cab a k
  · rfl
  · exfalso
    simp [m_cab, m_bg, m_p] at e
    omega
theorem S_2 (X : Sx) (d i : Nat) : S_ok X d i 2 := by
  intro o5 o6 I T hX hi h
  obtain ⟨n, m, G, p, z, H, c, h27, hn, n3, hz⟩ := INV_C h
  obtain ⟨c1, c2, c3, c4, c5, c6⟩ := id c
  obtain ⟨-, ⟨B, N, t1, t2⟩, hi4, o1, o2⟩ := id h
  have cl := k_Xcabinet X (d + 37) I T G p z H c1 t1
  have hiJ : ∀ {J : Ii}, z_fr m_cc I J → ∀ a, ((19 ≤ a ∧ a ≤ 26) ∨ (37 ≤ a ∧ a ≤ 41) ∨ (54 ≤ a ∧ a ≤ 58) ∨ a = 63 ∨ 139 ≤ a) → J a = I a := fun hf a ha => funext (fun k => hf a k (m_cc_f (by omega)))
  have rf : ∀ {J : Ii} (T : Tt), z_fr m_cc I J → _ := fun {J} T (hf : z_fr m_cc I J) => l_cabinet X (d + 40) J T (B := B) (N := N) (n := n) (m := m) (z_Tr_e t2 (by rw [hiJ hf 139 (by omega)]) (hiJ hf 144 (by omega))) t1.1 (fun k hk => (t1.2.2 k hk).1) (by rw [hiJ hf 140 (by omega), c2]; exact h27.1)
  have lo : ∀ {J K : Ii}, z_fr m_cab J K → ∀ a, (a < 139 ∨ a = 141 ∨ a = 143) → K a = J a := fun hf a ha => funext (fun k => hf a k (m_cab_f (by omega)))
  cases hC : C_cab B N (H z) with
  | error e =>
    obtain ⟨J, a1, a2, a3, a4, a5⟩ := cl.1 e hC
    have j140 : J 140 = H z := (hiJ a5 140 (by omega)).trans c2
    obtain ⟨K, b1, b2, b3, b4, b5, b6, b7, b8⟩ := (rf (q_tt T) a5).1 e (by rw [j140]; exact hC)
    have b1' : c_X12_cabinet_139 X (d + 50) J (q_tt T) = z_r 0 K (q_tt T) := b1
    refine ⟨K, jn_2_0 X d i o5 o6 I J K T 0 hX hi a1 b1' b2, INV_rd h (hiJ a5) (a5 0 18 (m_cc_f (by omega))) (fun a ha => lo b8 a (by omega)) (b8 139 3 (m_cab_f (by omega))) (by rw [b8 139 17 (m_cab_f (by omega)), hiJ a5 139 (by omega)]; exact o2) (by rw [a2, b3]) a3 b7 ⟨n, m, G, p, z, H, k_S_ref a4 (fun a ha => lo b8 a (by omega)), b6.trans j140, by rw [b5, hiJ a5 139 (by omega)]; exact c3, fun j hj k hk => by rw [lo b8 143 (by omega), hiJ a5 143 (by omega)]; exact c4 j hj k hk, c5, fun k hk => by rw [b6, hiJ a5 140 (by omega)]; exact c6 k hk⟩⟩
  | ok r' =>
    by_cases h12 : H z 0 = 12
    · obtain ⟨J, a1, a2, a3, a4, a5⟩ := cl.2.1 r' hC h12
      have j140 : J 140 = H z := (hiJ a5 140 (by omega)).trans c2
      obtain ⟨K, b1, b2, b3, b5, b6, b7, b8⟩ := (rf (q_tt T) a5).2.1 r' (by rw [j140]; exact hC) (by rw [j140]; exact h12)
      have b1' : c_X12_cabinet_139 X (d + 50) J (q_tt T) = z_r 0 K (q_tt T) := b1
      refine ⟨K, jn_2_1 X d i o5 o6 I J K T 0 hX hi a1 b1' b2, INV_rd h (hiJ a5) (a5 0 18 (m_cc_f (by omega))) (fun a ha => lo b8 a (by omega)) (b8 139 3 (m_cab_f (by omega))) (by rw [b8 139 17 (m_cab_f (by omega)), hiJ a5 139 (by omega)]; exact o2) (by rw [a2, b3]) a3 b7 ⟨n, m, G, p, z, H, k_S_ref a4 (fun a ha => lo b8 a (by omega)), b6.trans j140, by rw [b5, hiJ a5 139 (by omega)]; exact c3, fun j hj k hk => by rw [lo b8 143 (by omega), hiJ a5 143 (by omega)]; exact c4 j hj k hk, c5, fun k hk => by rw [b6, hiJ a5 140 (by omega)]; exact c6 k hk⟩⟩
    · obtain ⟨J, n', m', a1, a2, a3, a4, a5⟩ := cl.2.2 r' hC h12
      have j140 : J 140 = H z := (hiJ a5 140 (by omega)).trans c2
      obtain ⟨K, b1, b2, b3, b5, b6, b7, b8⟩ := (rf (q_tl T 150 0 (H z 0 + 1).toInt64) a5).2.2 r' (by rw [j140]; exact hC) (by rw [j140]; exact h12)
      rw [j140] at b1 b6
      have b1' : c_X12_cabinet_139 X (d + 50) J (q_tl T 150 0 (H z 0 + 1).toInt64) = z_r (H z 0 + 1) K (q_tl T 150 0 (H z 0 + 1).toInt64) := b1
      obtain ⟨-, co⟩ := C_cab_ok h27.1 hC
      refine ⟨K, jy_2 X d i o5 o6 I J K T _ hX hi a1 b1' b2, INV_rd h (hiJ a5) (a5 0 18 (m_cc_f (by omega))) (fun a ha => lo b8 a (by omega)) (b8 139 3 (m_cab_f (by omega))) (by rw [b8 139 17 (m_cab_f (by omega)), hiJ a5 139 (by omega)]; exact o2) (by rw [a2, b3]) a3 b7 ⟨n', m', _, p, 0, _, k_S_ref a4 (fun a ha => lo b8 a (by omega)), b6, b5, fun j hj => absurd hj (Nat.not_lt_zero _), fun j hj => absurd hj (Nat.not_lt_zero _), fun k hk => by rw [b6, z_up_o _ _ (by omega), co.1 k (by omega), ← c2]; exact c6 k hk⟩⟩
theorem m_cl_f {a k : Nat} (h : (a = 0 ∧ k = 18) ∨ a = 2 ∨ (19 ≤ a ∧ a ≤ 26) ∨ (37 ≤ a ∧ a ≤ 41) ∨ (54 ≤ a ∧ a ≤ 58) ∨ a = 63 ∨ 139 ≤ a) : m_cl a k = false := by
  cases e : m_cl a k
  · rfl
  · exfalso
    simp [m_cl, m_ll, m_lr, m_ta] at e
    omega
theorem m_law_f {a k : Nat} (h : a < 139 ∨ a = 141 ∨ a = 143 ∨ a = 144 ∨ (a = 139 ∧ (k = 3 ∨ k = 17))) : m_law a k = false := by
  cases e : m_law a k
  · rfl
  · exfalso
    simp [m_law, m_bg, m_p] at e
    omega
theorem S_3 (X : Sx) (d i : Nat) : S_ok X d i 3 := by
  intro o5 o6 I T hX hi h
  obtain ⟨n, m, G, p, z, H, c, h27, hn, n3, hz⟩ := INV_C h
  obtain ⟨c1, c2, c3, c4, c5, c6⟩ := id c
  obtain ⟨-, ⟨B, N, t1, t2⟩, hi4, o1, o2⟩ := id h
  have hN := t1.1
  have hB : ∀ k, k < N → B k < 256 := fun k hk => (t1.2.2 k hk).1
  have hB' : ∀ k, k < N → L_B (H z) N B k < 256 := fun k hk => by rw [L_B_k hk]; exact hB k hk
  have t1' : z_Ta I (L_B (H z) N B) N := ⟨t1.1, t1.2.1, fun k hk => by rw [L_B_k hk]; exact t1.2.2 k hk⟩
  have t2' : z_Tr I (L_B (H z) N B) N := ⟨t2.1, fun k hk => by rw [L_B_k hk]; exact t2.2 k hk⟩
  have cl := k_Xlaw X (d + 21) I T G p z H c1 t1'
  have hiJ : ∀ {J : Ii}, z_fr m_cl I J → ∀ a, ((19 ≤ a ∧ a ≤ 26) ∨ (37 ≤ a ∧ a ≤ 41) ∨ (54 ≤ a ∧ a ≤ 58) ∨ a = 63 ∨ 139 ≤ a) → J a = I a := fun hf a ha => funext (fun k => hf a k (m_cl_f (by omega)))
  have rf : ∀ {J : Ii} (T : Tt), z_fr m_cl I J → _ := fun {J} T (hf : z_fr m_cl I J) => l_Xlaw X (d + 18) J T (B := L_B (H z) N B) (N := N) (z_Tr_e t2' (by rw [hiJ hf 139 (by omega)]) (hiJ hf 144 (by omega))) hN hB' (by rw [hiJ hf 139 (by omega)]; exact o2)
  have lo : ∀ {J K : Ii}, z_fr m_law J K → ∀ a, (a < 139 ∨ a = 141 ∨ a = 143) → K a = J a := fun hf a ha => funext (fun k => hf a k (m_law_f (by omega)))
  cases hC : P_law (L_B (H z) N B) N with
  | none => exact absurd hC (P_law_f _ _)
  | some rr =>
    cases rr with
    | error e =>
      obtain ⟨J, a1, a2, a3, a4, a5⟩ := cl.1 e hC
      have j140 : J 140 = H z := (hiJ a5 140 (by omega)).trans c2
      obtain ⟨K, b1, b2, b3, b4, b5, b6, b7, b8⟩ := (rf (q_tt T) a5).1 e hC
      have b1' : c_X12_law_139 X (d + 50) J (q_tt T) = z_r 0 K (q_tt T) := b1
      have a1' : c_X11_law_0 X (d + 49) I T = z_x 0 J T := a1
      refine ⟨K, jn_3_0 X d i o5 o6 I J K T 0 hX hi a1' b1' b2, INV_rd h (hiJ a5) (a5 0 18 (m_cl_f (by omega))) (fun a ha => lo b8 a (by omega)) (b8 139 3 (m_law_f (by omega))) (by rw [b8 139 17 (m_law_f (by omega)), hiJ a5 139 (by omega)]; exact o2) (by rw [a2, b3]) a3 b7 ⟨n, m, G, p, z, H, k_S_ref a4 (fun a ha => lo b8 a (by omega)), b6.trans j140, by rw [b5, hiJ a5 139 (by omega)]; exact c3, fun j hj k hk => by rw [lo b8 143 (by omega), hiJ a5 143 (by omega)]; exact c4 j hj k hk, c5, fun k hk => by rw [b6, hiJ a5 140 (by omega)]; exact c6 k hk⟩⟩
    | ok Ls =>
      obtain ⟨l1, l2⟩ := L_lo hN hB hC
      have lr : ∀ i, i < 484 → i ≠ 1 → i ≠ 2 → L_row (H z) N (L_B (H z) N B) (nI Ls.length) i = H z i := fun i h1 h2 h3 => L_row_o h2 h3 h1
      obtain ⟨J, a1, a2, a3, a4, a5⟩ := cl.2 Ls _ hC l1 l2 (by unfold L_row; rw [if_pos rfl]) lr
      have j140 : J 140 = H z := (hiJ a5 140 (by omega)).trans c2
      obtain ⟨K, b1, b2, b3, b5, b6, b7, b8⟩ := (rf (q_tl T 150 0 (nI Ls.length).toInt64) a5).2 Ls hC
      rw [j140] at b6
      have b1' : c_X12_law_139 X (d + 50) J (q_tl T 150 0 (nI Ls.length).toInt64) = z_r (nI Ls.length) K (q_tl T 150 0 (nI Ls.length).toInt64) := b1
      have a1' : c_X11_law_0 X (d + 49) I T = z_r (nI Ls.length) J T := a1
      refine ⟨K, jy_3 X d i o5 o6 I J K T _ hX hi a1' b1' b2, INV_rd h (hiJ a5) (a5 0 18 (m_cl_f (by omega))) (fun a ha => lo b8 a (by omega)) (b8 139 3 (m_law_f (by omega))) (by rw [b8 139 17 (m_law_f (by omega)), hiJ a5 139 (by omega)]; exact o2) (by rw [a2, b3]) a3 b7 ⟨n, m, _, p, 0, _, k_S_ref a4 (fun a ha => lo b8 a (by omega)), b6, b5, fun j hj => absurd hj (Nat.not_lt_zero _), fun j hj => absurd hj (Nat.not_lt_zero _), fun k hk => ?_⟩⟩
      rw [b6]
      unfold L_row
      rw [if_neg (by omega), if_neg (by omega), if_neg (by omega), ← c2]
      exact c6 k hk
