/-! ===== THE CLASS: its image ===== -/
/-- what was kept at 19, 37, 54, 63 stands for row r -/
def k_Im (I : Ii) (r : Nat → Int32) (n m g : Nat) : Prop := R_ok r n m ∧ z_Sh I 19 r n m ∧ z_La I 54 r ∧ z_Mo I 37 r n ∧ z_Lg I 37 63 r g
def m_im (a k : Nat) : Bool := (Nat.ble 19 a && Nat.ble a 26) || (Nat.ble 37 a && Nat.ble a 41) || (Nat.ble 54 a && Nat.ble a 58) || a == 63 || (a == 0 && k == 18)
theorem k_becB_62 (X : Sx) (d : Nat) (I : Ii) (T : Tt) : c_X6_become_62_60 X (d + 1) I T = z_v (q_y I 61 0 63 0 360) T := e_X6_become_62_60 X d I T
theorem k_becB_60 (X : Sx) (d : Nat) (I : Ii) (T : Tt) : c_X6_become_60_62 X (d + 1) I T = z_v (q_y I 63 0 61 0 360) T := e_X6_become_60_62 X d I T
theorem k_Ximage (X : Sx) (d : Nat) (I : Ii) (T : Tt) (n m : Nat) (G : Nat → Nat) (p z : Nat) (H : Nat → Nat → Int32) (h : k_S I n m G p z H) : ∃ K, c_X11_image_0 X (d + 12) I T = z_v K T ∧ z_fr m_im I K ∧ k_S K n m G p z H ∧ k_Im K (H z) n m (G z) ∧ K 0 18 = 1 := by
  obtain ⟨M1, M2, M3, M4, M5⟩ := h.2.2.2.2.1
  have hn := M1.2.1
  have hm := M1.2.2.2.1
  have A1 := fun a hh => k_cS_o I 3 19 a hh
  have A2 := fun a hh => k_cp_o (k_cS I 3 19) 27 37 a hh
  have A3 := fun a hh => k_cL_o (k_cp (k_cS I 3 19) 27 37) 42 54 a hh
  have A4 := fun a (hh : a ≠ 63) => z_y_a (k_cL (k_cp (k_cS I 3 19) 27 37) 42 54) 61 0 63 0 360 a hh
  have A5 := fun a (hh : a ≠ 0) => z_w_a (q_y (k_cL (k_cp (k_cS I 3 19) 27 37) 42 54) 61 0 63 0 360) 0 18 1 a hh
  have row : ∀ a, a ≠ 0 → a ≠ 63 → (a < 54 ∨ 58 < a) → (a < 37 ∨ 41 < a) → (a < 19 ∨ 26 < a) → q_w (q_y (k_cL (k_cp (k_cS I 3 19) 27 37) 42 54) 61 0 63 0 360) 0 18 1 a = I a := by
    intro a b1 b2 b3 b4 b5
    rw [A5 a b1, A4 a b2, A3 a (by omega), A2 a (by omega), A1 a (by omega)]
  refine ⟨q_w (q_y (k_cL (k_cp (k_cS I 3 19) 27 37) 42 54) 61 0 63 0 360) 0 18 1, ?_, ?_, ?_, ⟨M1, ?_, ?_, ?_, ?_⟩, z_w_s _ _ _ _⟩
  · rw [e_X11_image_0, k_becS_19_3]
    simp (disch := omega) only [e_X11_image_0_5, k_X11_image_0_5, e_X11_image_0_10, k_X11_image_0_10, e_X11_image_0_15, k_X11_image_0_15, e_X11_image_0_20, k_X11_image_0_20, k_bec_37_27, k_becL_54_42, k_becB_62, q_bd_l, z_ltT, z_ltF, z_eqT, z_eqF, z_ltlT, z_ltlF, z_lltT, z_lltF, z_eqlT, z_eqlF, z_in, z_k7, z_cl, z_lneg, z_llT, z_llF, z_s1, z_nI_cl, z_nlt0, z_ne_m1, z_b0, z_b1, z_la, z_al, z_lm, z_ml, z_nm, nI_add, pk_mul, ↓reduceIte, not_true_eq_false, not_false_eq_true, true_or, or_true, false_or, or_false, true_and, and_true, and_false, false_and, Classical.not_not, Nat.add_zero, z_01, z_em, z_bit_p, Nat.not_le, Nat.not_lt, reduceCtorEq, if_true, if_false]
  · intro a k hq
    have nq : ¬ ((19 ≤ a ∧ a ≤ 26) ∨ (37 ≤ a ∧ a ≤ 41) ∨ (54 ≤ a ∧ a ≤ 58) ∨ a = 63 ∨ (a = 0 ∧ k = 18)) := by
      intro c
      have : m_im a k = true := by
        simp [m_im]
        omega
      rw [this] at hq; cases hq
    by_cases a0 : a = 0
    · subst a0
      rw [z_w_k _ _ _ _ _ (by omega), A4 0 (by omega), A3 0 (by omega), A2 0 (by omega), A1 0 (by omega)]
    · rw [row a a0 (by omega) (by omega) (by omega) (by omega)]
  · exact k_S_fr h (fun a x y => row a (by omega) (by omega) (by omega) (by omega) (by omega)) (by rw [row 42 (by omega) (by omega) (by omega) (by omega) (by omega)]) (fun a x y => row a (by omega) (by omega) (by omega) (by omega) (by omega)) (fun a x y => row a (by omega) (by omega) (by omega) (by omega) (by omega)) ⟨by rw [row 64 (by omega) (by omega) (by omega) (by omega) (by omega)], by rw [row 64 (by omega) (by omega) (by omega) (by omega) (by omega)]⟩ (fun a x y => row a (by omega) (by omega) (by omega) (by omega) (by omega)) (row 61 (by omega) (by omega) (by omega) (by omega) (by omega))
  · exact z_Sh_fr (k_cS_Sh I 3 19 (H z) n m (by omega) hn hm M2) (fun a x y => by rw [A5 a (by omega), A4 a (by omega), A3 a (by omega), A2 a (by omega)])
  · have hL : z_La (k_cp (k_cS I 3 19) 27 37) 42 (H z) := z_La_fr M3 (by rw [A2 42 (by omega), A1 42 (by omega)]) (fun a x y => by rw [A2 a (by omega), A1 a (by omega)])
    exact z_La_fr (k_cL_La _ 42 54 (H z) (by omega) hL) (by rw [A5 54 (by omega), A4 54 (by omega)]) (fun a x y => by rw [A5 a (by omega), A4 a (by omega)])
  · have hMo : z_Mo (k_cS I 3 19) 27 (H z) n := z_Mo_fr M4 (fun a x y => A1 a (by omega))
    exact z_Mo_fr (k_cp_Mo _ 27 37 (H z) n (by omega) hn hMo) (fun a x y => by rw [A5 a (by omega), A4 a (by omega), A3 a (by omega)])
  · have hG : z_Lg (k_cS I 3 19) 27 61 (H z) (G z) := z_Lg_fr M5 (by rw [A1 27 (by omega)]) (A1 61 (by omega))
    have hG2 := k_cp_Lg (k_cS I 3 19) 27 37 61 (H z) (G z) (by omega) hG
    have hG3 : z_Lg (k_cL (k_cp (k_cS I 3 19) 27 37) 42 54) 37 61 (H z) (G z) := z_Lg_fr hG2 (by rw [A3 37 (by omega)]) (A3 61 (by omega))
    exact z_Lg_fr (k_cB_Lg _ 37 61 63 (H z) (G z) (by omega) hG3) (by rw [A5 37 (by omega)]) (A5 63 (by omega))
theorem k_Xback0 (X : Sx) (d : Nat) (I : Ii) (T : Tt) (h : I 0 18 = 0) : c_X11_back_0 X (d + 12) I T = z_r 0 I T := by
  rw [e_X11_back_0, if_pos h]
theorem k_Xback1 (X : Sx) (d : Nat) (I : Ii) (T : Tt) (n m g p : Nat) (r : Nat → Int32) (h0 : I 0 18 = 1) (h : k_Im I r n m g) (hp : p < 12) (h1 : I 64 1 = nI p) : ∃ K, c_X11_back_0 X (d + 12) I T = z_r 1 K T ∧ z_fr (fun a k => (Nat.ble 3 a && Nat.ble a 10) || (Nat.ble 27 a && Nat.ble a 31) || (Nat.ble 42 a && Nat.ble a 46) || a == 61 || (a == 64 && k == 2)) I K ∧ k_S K n m (fun _ => g) p 0 (fun _ => r) := by
  obtain ⟨M1, M2, M3, M4, M5⟩ := h
  have hn := M1.2.1
  have hm := M1.2.2.2.1
  have A1 := fun a hh => k_cS_o I 19 3 a hh
  have A2 := fun a hh => k_cp_o (k_cS I 19 3) 37 27 a hh
  have A3 := fun a hh => k_cL_o (k_cp (k_cS I 19 3) 37 27) 54 42 a hh
  have A4 := fun a (hh : a ≠ 61) => z_y_a (k_cL (k_cp (k_cS I 19 3) 37 27) 54 42) 63 0 61 0 360 a hh
  have A5 := fun a (hh : a ≠ 64) => z_w_a (q_y (k_cL (k_cp (k_cS I 19 3) 37 27) 54 42) 63 0 61 0 360) 64 2 0 a hh
  refine ⟨q_w (q_y (k_cL (k_cp (k_cS I 19 3) 37 27) 54 42) 63 0 61 0 360) 64 2 0, ?_, ?_, hp, by omega, ?_, z_w_s _ _ _ _, ⟨M1, ?_, ?_, ?_, ?_⟩, fun i hi => by omega, fun i j a b => ⟨Nat.le_refl g, Nat.le_add_right g _⟩⟩
  · have e : ¬ I 0 18 = 0 := by rw [h0]; decide
    rw [e_X11_back_0, if_neg e, k_becS_3_19]
    simp (disch := omega) only [e_X11_back_0_10, k_X11_back_0_10, e_X11_back_0_15, k_X11_back_0_15, e_X11_back_0_20, k_X11_back_0_20, e_X11_back_0_25, k_X11_back_0_25, e_X11_back_0_28, k_X11_back_0_28, k_bec_27_37, k_becL_42_54, k_becB_60, k_forget, q_bd_l, z_ltT, z_ltF, z_eqT, z_eqF, z_ltlT, z_ltlF, z_lltT, z_lltF, z_eqlT, z_eqlF, z_in, z_k7, z_cl, z_lneg, z_llT, z_llF, z_s1, z_nI_cl, z_nlt0, z_ne_m1, z_b0, z_b1, z_la, z_al, z_lm, z_ml, z_nm, nI_add, pk_mul, ↓reduceIte, not_true_eq_false, not_false_eq_true, true_or, or_true, false_or, or_false, true_and, and_true, and_false, false_and, Classical.not_not, Nat.add_zero, z_01, z_em, z_bit_p, Nat.not_le, Nat.not_lt, reduceCtorEq, if_true, if_false]
  · intro a k hq
    have nq : ¬ ((3 ≤ a ∧ a ≤ 10) ∨ (27 ≤ a ∧ a ≤ 31) ∨ (42 ≤ a ∧ a ≤ 46) ∨ a = 61 ∨ (a = 64 ∧ k = 2)) := by
      intro c
      have : ((Nat.ble 3 a && Nat.ble a 10) || (Nat.ble 27 a && Nat.ble a 31) || (Nat.ble 42 a && Nat.ble a 46) || a == 61 || (a == 64 && k == 2)) = true := by
        simp
        omega
      exact absurd (this.symm.trans hq) (by decide)
    by_cases a0 : a = 64
    · subst a0
      rw [z_w_k _ _ _ _ _ (by omega), A4 64 (by omega), A3 64 (by omega), A2 64 (by omega), A1 64 (by omega)]
    · rw [A5 a a0, A4 a (by omega), A3 a (by omega), A2 a (by omega), A1 a (by omega)]
  · rw [z_w_k _ _ _ _ _ (by decide), A4 64 (by omega), A3 64 (by omega), A2 64 (by omega), A1 64 (by omega)]; exact h1
  · exact z_Sh_fr (k_cS_Sh I 19 3 r n m (by omega) hn hm M2) (fun a x y => by rw [A5 a (by omega), A4 a (by omega), A3 a (by omega), A2 a (by omega)])
  · have hL : z_La (k_cp (k_cS I 19 3) 37 27) 54 r := z_La_fr M3 (by rw [A2 54 (by omega), A1 54 (by omega)]) (fun a x y => by rw [A2 a (by omega), A1 a (by omega)])
    exact z_La_fr (k_cL_La _ 54 42 r (by omega) hL) (by rw [A5 42 (by omega), A4 42 (by omega)]) (fun a x y => by rw [A5 a (by omega), A4 a (by omega)])
  · have hMo : z_Mo (k_cS I 19 3) 37 r n := z_Mo_fr M4 (fun a x y => A1 a (by omega))
    exact z_Mo_fr (k_cp_Mo _ 37 27 r n (by omega) hn hMo) (fun a x y => by rw [A5 a (by omega), A4 a (by omega), A3 a (by omega)])
  · have hG : z_Lg (k_cS I 19 3) 37 63 r g := z_Lg_fr M5 (by rw [A1 37 (by omega)]) (A1 63 (by omega))
    have hG2 := k_cp_Lg (k_cS I 19 3) 37 27 63 r g (by omega) hG
    have hG3 : z_Lg (k_cL (k_cp (k_cS I 19 3) 37 27) 54 42) 27 63 r g := z_Lg_fr hG2 (by rw [A3 27 (by omega)]) (A3 63 (by omega))
    exact z_Lg_fr (k_cB_Lg _ 27 63 61 r g (by omega) hG3) (by rw [A5 27 (by omega)]) (A5 61 (by omega))
