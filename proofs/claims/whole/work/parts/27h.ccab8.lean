/-! ===== THE CLASS: cabinet() ===== -/
theorem z_Sh_12 {I : Ii} {r : Nat → Int32} {n m : Nat} {v : Int32} (h : z_Sh I 11 r n m) : z_Sh (q_w I 11 12 v) 11 (va_up r 0 v) n m := by
  obtain ⟨s1, s2, s3, s4, s5, s6, s7, s8, s9, s10, s11, s12, s13⟩ := h
  have w : ∀ k, k ≠ 12 → (q_w I 11 12 v) 11 k = I 11 k := fun k hk => z_w_k _ _ _ _ _ hk
  have w2 : ∀ a, a ≠ 11 → (q_w I 11 12 v) a = I a := fun a ha => z_w_a _ _ _ _ _ ha
  have u : ∀ j, j ≠ 0 → va_up r 0 v j = r j := fun j hj => z_up_o _ _ hj
  exact ⟨by rw [w _ (by omega), u _ (by omega)]; exact s1, by rw [w _ (by omega), u _ (by omega)]; exact s2, by rw [w _ (by omega), u _ (by omega)]; exact s3, by rw [w _ (by omega), u _ (by omega)]; exact s4, by rw [w _ (by omega), u _ (by omega)]; exact s5, by rw [z_w_s, z_up_s], fun j hj => by rw [w2 _ (by omega), u _ (by omega)]; exact s7 j hj, fun j hj => by rw [w2 _ (by omega), u _ (by omega)]; exact s8 j hj, fun j t hj ht => by rw [w2 _ (by omega), u _ (by omega)]; exact s9 j t hj ht, fun j hj => by rw [w2 _ (by omega), u _ (by omega)]; exact s10 j hj, fun j hj => by rw [w2 _ (by omega), u _ (by omega)]; exact s11 j hj, fun j hj => by rw [w2 _ (by omega), u _ (by omega)]; exact s12 j hj, fun j hj => by rw [w2 _ (by omega), u _ (by omega)]; exact s13 j hj⟩
theorem z_Mo_0 {I : Ii} {mo : Nat} {r : Nat → Int32} {n : Nat} {v : Int32} (h : z_Mo I mo r n) : z_Mo I mo (va_up r 0 v) n := by
  obtain ⟨t1, t2, t3, t4, t5, t6, t7, t8, o, t9, t10, t11⟩ := h
  have u : ∀ j, j ≠ 0 → va_up r 0 v j = r j := fun j hj => z_up_o _ _ hj
  exact ⟨by rw [u _ (by omega)]; exact t1, by rw [u _ (by omega)]; exact t2, by rw [u _ (by omega)]; exact t3, by rw [u _ (by omega)]; exact t4, fun j hj => by rw [u _ (by omega)]; exact t5 j hj, fun j hj => by rw [u _ (by omega)]; exact t6 j hj, fun j hj => by rw [u _ (by omega)]; exact t7 j hj, fun j hj => by rw [u _ (by omega)]; exact t8 j hj, o, t9, t10, fun j hj => by rw [u _ (by omega)]; exact t11 j hj⟩
theorem R_ok_0 {r : Nat → Int32} {n m : Nat} {v : Int32} (h : R_ok r n m) (hv : z_le v 12) : R_ok (va_up r 0 v) n m := by
  obtain ⟨a1, a2, a3, a4, a5, a6, a7, a8, a9, a10, a11, a12⟩ := h
  have u : ∀ j, j ≠ 0 → va_up r 0 v j = r j := fun j hj => z_up_o _ _ hj
  refine ⟨by rw [u _ (by omega)]; exact a1, a2, by rw [u _ (by omega)]; exact a3, a4, by rw [z_up_s]; exact hv, by rw [u _ (by omega)]; exact a6, by rw [u _ (by omega)]; exact a7, by rw [u _ (by omega)]; exact a8, by rw [u _ (by omega)]; exact a9, fun q hq => by rw [u _ (by omega)]; exact a10 q hq, fun j hj => ?_, fun k hk => by rw [u _ (by omega), u _ (by omega)]; exact a12 k hk⟩
  obtain ⟨b1, b2, b3, b4, b5, b6, b7, b8⟩ := a11 j hj
  exact ⟨by rw [u _ (by omega)]; exact b1, by rw [u _ (by omega)]; exact b2, by rw [u _ (by omega)]; exact b3, by rw [u _ (by omega)]; exact b4, by rw [u _ (by omega)]; exact b5, by rw [u _ (by omega)]; exact b6, by rw [u _ (by omega)]; exact b7, fun t ht => by rw [u _ (by omega)]; exact b8 t ht⟩
/-- all that cabinet() may change in the class -/
def m_cc (a k : Nat) : Bool := m_cs a k || (a == 0 && k == 19) || (a == 1 && k == 1) || (Nat.ble 3 a && Nat.ble a 10) || (Nat.ble 27 a && Nat.ble a 31) || (a == 64 && k == 2)
theorem k_Xcabinet (X : Sx) (d : Nat) (I : Ii) (T : Tt) {B : Nat → Nat} {N n m : Nat} (G : Nat → Nat) (p z : Nat) (H : Nat → Nat → Int32) (h : k_S I n m G p z H) (hT : z_Ta I B N) : (∀ e, C_cab B N (H z) = .error e → ∃ K, c_X11_cabinet_0 X (d + 12) I T = z_x 0 K T ∧ K 0 19 = nI e ∧ K 1 1 = 0 ∧ k_S K n m G p z H ∧ z_fr m_cc I K) ∧ (∀ r', C_cab B N (H z) = .ok r' → H z 0 = 12 → ∃ K, c_X11_cabinet_0 X (d + 12) I T = z_x 1 K T ∧ K 0 19 = -1 ∧ K 1 1 = 0 ∧ k_S K n m G p z H ∧ z_fr m_cc I K) ∧ (∀ r', C_cab B N (H z) = .ok r' → H z 0 ≠ 12 → ∃ K n' m', c_X11_cabinet_0 X (d + 12) I T = z_r (H z 0 + 1) K T ∧ K 0 19 = -1 ∧ K 1 1 = 0 ∧ k_S K n' m' (fun _ => G z) p 0 (fun _ => va_up r' 0 (H z 0 + 1)) ∧ z_fr m_cc I K) := by
  obtain ⟨hp12, hz12, g1, g2, hM, hM2, hG⟩ := id h
  obtain ⟨M1, M2, M3, M4, M5⟩ := hM
  have hn := M1.2.1
  have hm := M1.2.2.2.1
  have A1 := fun a hh => k_cS_o I 3 11 a hh
  have A2 := fun a hh => k_cp_o (k_cS I 3 11) 27 32 a hh
  have oA : ∀ a, (a < 11 ∨ 18 < a) → (a < 32 ∨ 36 < a) → k_cp (k_cS I 3 11) 27 32 a = I a := fun a h1 h2 => by rw [A2 a (by omega), A1 a (by omega)]
  have DA : k_D (k_cp (k_cS I 3 11) 27 32) (H z) n m := ⟨z_Sh_fr (k_cS_Sh I 3 11 (H z) n m (by omega) hn hm M2) (fun a x y => A2 a (by omega)), k_cp_Mo _ 27 32 (H z) n (by omega) hn (z_Mo_fr M4 (fun a x y => A1 a (by omega)))⟩
  have TA : z_Ta (k_cp (k_cS I 3 11) 27 32) B N := ⟨hT.1, by rw [oA 1 (by omega) (by omega)]; exact hT.2.1, fun k hk => by rw [oA 2 (by omega) (by omega)]; exact hT.2.2 k hk⟩
  have a8 : k_cp (k_cS I 3 11) 27 32 32 8 = I 27 8 := by rw [(k_cp_f (k_cS I 3 11) 27 32).2.2.2.2.1, A1 27 (by omega)]
  have a12 : k_cp (k_cS I 3 11) 27 32 11 12 = I 3 12 := by rw [A2 11 (by omega)]; exact (k_cS_f I 3 11).2.2.2.2.2
  have R := k_ctext X (d + 4) _ T TA DA M1
  have st : c_X11_cabinet_0 X (d + 12) I T = q_bd (c_X0_readText_126 X (d + 11) (k_cp (k_cS I 3 11) 27 32) T) (fun v h' => q_res X q_sb q_pg (d + 11) cd_X11_cabinet 13 [some (.ref 0), none] (v.toList ++ []) h') := by
    rw [e_X11_cabinet_0, k_becS_11_3]
    simp (disch := omega) only [e_X11_cabinet_0_5, k_X11_cabinet_0_5, e_X11_cabinet_0_10, k_X11_cabinet_0_10, k_bec_32_27, q_bd_l, z_ltT, z_ltF, z_eqT, z_eqF, z_ltlT, z_ltlF, z_lltT, z_lltF, z_eqlT, z_eqlF, z_in, z_k7, z_cl, z_lneg, z_llT, z_llF, z_s1, z_nI_cl, z_nlt0, z_ne_m1, z_b0, z_b1, z_la, z_al, z_lm, z_ml, z_nm, nI_add, pk_mul, ↓reduceIte, not_true_eq_false, not_false_eq_true, true_or, or_true, false_or, or_false, true_and, and_true, and_false, false_and, Classical.not_not, Nat.add_zero, z_01, z_em, z_bit_p, Nat.not_le, Nat.not_lt, reduceCtorEq, if_true, if_false]
  rw [st]
  generalize hAe : k_cp (k_cS I 3 11) 27 32 = A at *
  have rd0 : ∀ {a k}, m_rd a k = true → (a = 1 ∧ 2 ≤ k ∧ k ≤ 6) ∨ (11 ≤ a ∧ a ≤ 18) ∨ (32 ≤ a ∧ a ≤ 36) := by
    intro a k hr
    simp [m_rd, m_ta] at hr
    omega
  have outC : ∀ {C : Ii}, z_fr m_rd A C → ∀ a k, ¬ ((a = 1 ∧ 2 ≤ k ∧ k ≤ 6) ∨ (11 ≤ a ∧ a ≤ 18) ∨ (32 ≤ a ∧ a ≤ 36)) → C a k = I a k := by
    intro C hf a k hc
    have : m_rd a k = false := by
      cases e : m_rd a k
      · rfl
      · exact absurd (rd0 e) hc
    rw [hf a k this, oA a (by omega) (by omega)]
  have cc1 : ∀ {a k}, m_cc a k = false → ¬ ((a = 1 ∧ 2 ≤ k ∧ k ≤ 6) ∨ (11 ≤ a ∧ a ≤ 18) ∨ (32 ≤ a ∧ a ≤ 36)) ∧ ¬ (a = 0 ∧ k = 19) ∧ ¬ (a = 1 ∧ k = 1) ∧ ¬ (3 ≤ a ∧ a ≤ 10) ∧ ¬ (27 ≤ a ∧ a ≤ 31) ∧ ¬ (a = 64 ∧ k = 2) := by
    intro a k hc
    refine ⟨fun c => ?_, fun c => ?_, fun c => ?_, fun c => ?_, fun c => ?_, fun c => ?_⟩ <;> (have : m_cc a k = true := by (simp [m_cc, m_cs]; omega)) <;> (rw [this] at hc; cases hc)
  -- nothing of the state has changed
  have stay : ∀ {C : Ii} (v : Int32), z_fr m_rd A C → k_S (q_w (q_w C 0 19 v) 1 1 0) n m G p z H ∧ z_fr m_cc I (q_w (q_w C 0 19 v) 1 1 0) := by
    intro C v hf
    have o := outC hf
    have row : ∀ a, 2 ≤ a → (a < 11 ∨ 18 < a) → (a < 32 ∨ 36 < a) → (q_w (q_w C 0 19 v) 1 1 0) a = I a := fun a h0 h1 h2 => by
      rw [z_w_a _ _ _ _ _ (by omega), z_w_a _ _ _ _ _ (by omega)]
      exact funext (fun k => o a k (by omega))
    refine ⟨k_S_fr h (fun a x y => row a (by omega) (by omega) (by omega)) (by rw [row 42 (by omega) (by omega) (by omega)]) (fun a x y => row a (by omega) (by omega) (by omega)) (fun a x y => row a (by omega) (by omega) (by omega)) ⟨by rw [row 64 (by omega) (by omega) (by omega)], by rw [row 64 (by omega) (by omega) (by omega)]⟩ (fun a x y => row a (by omega) (by omega) (by omega)) (row 61 (by omega) (by omega) (by omega)), fun a k hm => ?_⟩
    obtain ⟨c1, c2, c3, -⟩ := cc1 hm
    rw [z_w, if_neg c3, z_w, if_neg c2]
    exact o a k c1
  refine ⟨fun e he => ?_, fun r' he h12 => ?_, fun r' he h12 => ?_⟩
  · obtain ⟨C, x1, x2, x3, x4⟩ := R.2 e he
    obtain ⟨s1, s2⟩ := stay (nI e) x4
    refine ⟨_, ?_, by rw [z_w_a _ _ _ _ _ (by decide), z_w_s], z_w_s _ _ _ _, s1, s2⟩
    rw [x1]
    simp (disch := omega) only [e_X11_cabinet_0_13, k_X11_cabinet_0_13, e_X11_cabinet_0_22, x2, q_bd_l, z_ltT, z_ltF, z_eqT, z_eqF, z_ltlT, z_ltlF, z_lltT, z_lltF, z_eqlT, z_eqlF, z_in, z_k7, z_cl, z_lneg, z_llT, z_llF, z_s1, z_nI_cl, z_nlt0, z_ne_m1, z_b0, z_b1, z_la, z_al, z_lm, z_ml, z_nm, nI_add, pk_mul, ↓reduceIte, not_true_eq_false, not_false_eq_true, true_or, or_true, false_or, or_false, true_and, and_true, and_false, false_and, Classical.not_not, Nat.add_zero, z_01, z_em, z_bit_p, Nat.not_le, Nat.not_lt, reduceCtorEq, if_true, if_false]
    rfl
  · obtain ⟨C, n', m', x1, x2, x3, x4⟩ := R.1 r' he
    obtain ⟨s1, s2⟩ := stay (-1) x4
    refine ⟨_, ?_, by rw [z_w_a _ _ _ _ _ (by decide), z_w_s], z_w_s _ _ _ _, s1, s2⟩
    have c12 : C 3 12 = 12 := by rw [outC x4 3 12 (by omega)]; exact M2.2.2.2.2.2.1.trans h12
    rw [x1]
    simp (disch := omega) only [e_X11_cabinet_0_13, k_X11_cabinet_0_13, e_X11_cabinet_0_22, c12, q_bd_l, z_ltT, z_ltF, z_eqT, z_eqF, z_ltlT, z_ltlF, z_lltT, z_lltF, z_eqlT, z_eqlF, z_in, z_k7, z_cl, z_lneg, z_llT, z_llF, z_s1, z_nI_cl, z_nlt0, z_ne_m1, z_b0, z_b1, z_la, z_al, z_lm, z_ml, z_nm, nI_add, pk_mul, ↓reduceIte, not_true_eq_false, not_false_eq_true, true_or, or_true, false_or, or_false, true_and, and_true, and_false, false_and, Classical.not_not, Nat.add_zero, z_01, z_em, z_bit_p, Nat.not_le, Nat.not_lt, reduceCtorEq, if_true, if_false]
    rfl
  · obtain ⟨C, n', m', x1, x2, x3, x4⟩ := R.1 r' he
    obtain ⟨-, co⟩ := C_cab_ok M1 he
    have o := outC x4
    have c12 : C 3 12 = H z 0 := by rw [o 3 12 (by omega)]; exact M2.2.2.2.2.2.1
    have d12 : C 11 12 = H z 0 := by rw [x4 11 12 rfl, a12]; exact M2.2.2.2.2.2.1
    obtain ⟨x, hx1, hx2⟩ := M1.2.2.2.2.1
    have hx3 : x ≠ 12 := fun c => h12 (by rw [hx2, c]; rfl)
    have lt12 : H z 0 < 12 := by rw [hx2]; exact nI_lt (b := 12) (by omega) (by omega)
    have le12 : z_le (H z 0 + 1) 12 := ⟨x + 1, by omega, by rw [hx2, z_s1]⟩
    have ok := R_ok_0 (v := H z 0 + 1) x2 le12
    have hn' := ok.2.1
    have hm' := ok.2.2.2.1
    generalize hE : q_w (q_w (q_w C 0 19 (-1)) 1 1 0) 11 12 (H z 0 + 1) = E
    have oE : ∀ a, 2 ≤ a → a ≠ 11 → E a = C a := fun a h1 h2 => by rw [← hE, z_w_a _ _ _ _ _ h2, z_w_a _ _ _ _ _ (by omega), z_w_a _ _ _ _ _ (by omega)]
    have E11 : z_Sh E 11 (va_up r' 0 (H z 0 + 1)) n' m' := by
      rw [← hE]
      exact z_Sh_12 (z_Sh_fr x3.1 (fun a h1 _ => by rw [z_w_a _ _ _ _ _ (by omega), z_w_a _ _ _ _ _ (by omega)]))
    have F1 := fun a hh => k_cS_o E 11 3 a hh
    have F2 := fun a hh => k_cp_o (k_cS E 11 3) 32 27 a hh
    have oK : ∀ a, 2 ≤ a → (a < 3 ∨ 18 < a) → (a < 27 ∨ 36 < a) → a ≠ 64 → q_w (k_cp (k_cS E 11 3) 32 27) 64 2 0 a = I a := fun a h0 h1 h2 h3 => by
      rw [z_w_a _ _ _ _ _ h3, F2 a (by omega), F1 a (by omega), oE a (by omega) (by omega)]
      exact funext (fun k => o a k (by omega))
    have e32 : E 32 8 = I 27 8 := by rw [oE 32 (by omega) (by omega), x4 32 8 rfl, a8]
    refine ⟨q_w (k_cp (k_cS E 11 3) 32 27) 64 2 0, n', m', ?_, ?_, ?_, ⟨hp12, by omega, ?_, z_w_s _ _ _ _, ⟨ok, ?_, ?_, ?_, ?_⟩, fun i hi => by omega, fun i j _ _ => by simp⟩, ?_⟩
    · have e312 : q_w (k_cp (k_cS E 11 3) 32 27) 64 2 0 3 12 = H z 0 + 1 := by
        rw [z_w_a _ _ _ _ _ (by decide), F2 3 (by omega), (k_cS_f E 11 3).2.2.2.2.2, ← hE, z_w_s]
      rw [x1]
      simp (disch := omega) only [e_X11_cabinet_0_13, k_X11_cabinet_0_13, e_X11_cabinet_0_22, e_X11_cabinet_0_56, k_X11_cabinet_0_56, e_X11_cabinet_0_61, k_X11_cabinet_0_61, e_X11_cabinet_0_64, k_X11_cabinet_0_64, c12, d12, lt12, hE, k_becS_3_11, k_bec_27_32, k_forget, e312, q_bd_l, z_ltT, z_ltF, z_eqT, z_eqF, z_ltlT, z_ltlF, z_lltT, z_lltF, z_eqlT, z_eqlF, z_in, z_k7, z_cl, z_lneg, z_llT, z_llF, z_s1, z_nI_cl, z_nlt0, z_ne_m1, z_b0, z_b1, z_la, z_al, z_lm, z_ml, z_nm, nI_add, pk_mul, ↓reduceIte, not_true_eq_false, not_false_eq_true, true_or, or_true, false_or, or_false, true_and, and_true, and_false, false_and, Classical.not_not, Nat.add_zero, z_01, z_em, z_bit_p, Nat.not_le, Nat.not_lt, reduceCtorEq, if_true, if_false]
    · rw [z_w_a _ _ _ _ _ (by decide), F2 0 (by omega), F1 0 (by omega), ← hE, z_w_a _ _ _ _ _ (by decide), z_w_a _ _ _ _ _ (by decide), z_w_s]
    · rw [z_w_a _ _ _ _ _ (by decide), F2 1 (by omega), F1 1 (by omega), ← hE, z_w_a _ _ _ _ _ (by decide), z_w_s]
    · rw [z_w_k _ _ _ _ _ (by decide), F2 64 (by omega), F1 64 (by omega), oE 64 (by omega) (by omega), o 64 1 (by omega)]; exact g1
    · exact z_Sh_fr (k_cS_Sh E 11 3 _ n' m' (by omega) hn' hm' E11) (fun a x y => by rw [z_w_a _ _ _ _ _ (by omega), F2 a (by omega)])
    · refine z_La_cg (r := H z) (z_La_fr M3 (by rw [oK 42 (by omega) (by omega) (by omega) (by omega)]) (fun a x y => oK a (by omega) (by omega) (by omega) (by omega))) ?_ ?_ (fun k => ?_)
      · dsimp only; rw [z_up_o _ _ (by omega)]; exact co.2 1 (by omega) (by omega) (by omega) (by omega) (by omega) (by omega)
      · dsimp only; rw [z_up_o _ _ (by omega)]; exact co.2 2 (by omega) (by omega) (by omega) (by omega) (by omega) (by omega)
      · dsimp only; rw [z_up_o _ _ (by omega)]; exact co.1 _ (by omega)
    · refine z_Mo_0 (z_Mo_fr (k_cp_Mo (k_cS E 11 3) 32 27 r' n' (by omega) hn' (z_Mo_fr x3.2 (fun a x y => ?_))) (fun a x y => z_w_a _ _ _ _ _ (by omega)))
      rw [F1 a (by omega), oE a (by omega) (by omega)]
    · refine ⟨?_, fun i c hi hi2 hc => ?_⟩
      · rw [z_w_a _ _ _ _ _ (by decide), (k_cp_f (k_cS E 11 3) 32 27).2.2.2.2.1, F1 32 (by omega), e32]
        exact M5.1
      · have r10 : va_up r' 0 (H z 0 + 1) 10 = H z 10 := by rw [z_up_o _ _ (by omega)]; exact co.2 10 (by omega) (by omega) (by omega) (by omega) (by omega) (by omega)
        dsimp only at hi ⊢
        rw [r10] at hi
        rw [oK 61 (by omega) (by omega) (by omega) (by omega), M5.2 i c hi hi2 hc, z_up_o _ _ (by omega), co.1 _ (by omega)]
    · intro a k hm
      obtain ⟨c1, c2, c3, c4, c5, c6⟩ := cc1 hm
      rw [z_w, if_neg c6]
      have ha : (a < 27 ∨ 31 < a) := by omega
      rw [F2 a (by omega), F1 a (by omega), ← hE, z_w, if_neg (by omega), z_w, if_neg c3, z_w, if_neg c2]
      exact o a k c1
