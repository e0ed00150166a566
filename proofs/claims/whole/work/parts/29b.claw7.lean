/-! ===== THE CLASS: law() ===== -/
theorem R_ok_e {r r' : Nat → Int32} {n m : Nat} (h : R_ok r n m) (e : ∀ i, i < 184 → i ≠ 1 → i ≠ 2 → r' i = r i) : R_ok r' n m := by
  obtain ⟨a1, a2, a3, a4, a5, a6, a7, a8, a9, a10, a11, a12⟩ := h
  refine ⟨by rw [e _ (by omega) (by omega) (by omega)]; exact a1, a2, by rw [e _ (by omega) (by omega) (by omega)]; exact a3, a4, by rw [e _ (by omega) (by omega) (by omega)]; exact a5, by rw [e _ (by omega) (by omega) (by omega)]; exact a6, by rw [e _ (by omega) (by omega) (by omega)]; exact a7, by rw [e _ (by omega) (by omega) (by omega)]; exact a8, by rw [e _ (by omega) (by omega) (by omega)]; exact a9, fun q hq => by rw [e _ (by omega) (by omega) (by omega)]; exact a10 q hq, fun j hj => ?_, fun k hk => by rw [e _ (by omega) (by omega) (by omega), e _ (by omega) (by omega) (by omega)]; exact a12 k hk⟩
  obtain ⟨b1, b2, b3, b4, b5, b6, b7, b8⟩ := a11 j hj
  exact ⟨by rw [e _ (by omega) (by omega) (by omega)]; exact b1, by rw [e _ (by omega) (by omega) (by omega)]; exact b2, by rw [e _ (by omega) (by omega) (by omega)]; exact b3, by rw [e _ (by omega) (by omega) (by omega)]; exact b4, by rw [e _ (by omega) (by omega) (by omega)]; exact b5, by rw [e _ (by omega) (by omega) (by omega)]; exact b6, by rw [e _ (by omega) (by omega) (by omega)]; exact b7, fun t ht => by rw [e _ (by omega) (by omega) (by omega)]; exact b8 t ht⟩
theorem z_Sh_e {I : Ii} {sh : Nat} {r r' : Nat → Int32} {n m : Nat} (h : z_Sh I sh r n m) (hn : n ≤ 10) (hm : m ≤ 10) (e : ∀ i, i < 184 → i ≠ 1 → i ≠ 2 → r' i = r i) : z_Sh I sh r' n m := by
  obtain ⟨s1, s2, s3, s4, s5, s6, s7, s8, s9, s10, s11, s12, s13⟩ := h
  exact ⟨by rw [e _ (by omega) (by omega) (by omega)]; exact s1, by rw [e _ (by omega) (by omega) (by omega)]; exact s2, by rw [e _ (by omega) (by omega) (by omega)]; exact s3, by rw [e _ (by omega) (by omega) (by omega)]; exact s4, by rw [e _ (by omega) (by omega) (by omega)]; exact s5, by rw [e _ (by omega) (by omega) (by omega)]; exact s6, fun j hj => by rw [e _ (by omega) (by omega) (by omega)]; exact s7 j hj, fun j hj => by rw [e _ (by omega) (by omega) (by omega)]; exact s8 j hj, fun j t hj ht => by rw [e _ (by omega) (by omega) (by omega)]; exact s9 j t hj ht, fun j hj => by rw [e _ (by omega) (by omega) (by omega)]; exact s10 j hj, fun j hj => by rw [e _ (by omega) (by omega) (by omega)]; exact s11 j hj, fun j hj => by rw [e _ (by omega) (by omega) (by omega)]; exact s12 j hj, fun j hj => by rw [e _ (by omega) (by omega) (by omega)]; exact s13 j hj⟩
theorem z_Mo_e {I : Ii} {mo : Nat} {r r' : Nat → Int32} {n : Nat} (h : z_Mo I mo r n) (hn : n ≤ 10) (e : ∀ i, i < 184 → i ≠ 1 → i ≠ 2 → r' i = r i) : z_Mo I mo r' n := by
  obtain ⟨t1, t2, t3, t4, t5, t6, t7, t8, o, t9, t10, t11⟩ := h
  exact ⟨by rw [e _ (by omega) (by omega) (by omega)]; exact t1, by rw [e _ (by omega) (by omega) (by omega)]; exact t2, by rw [e _ (by omega) (by omega) (by omega)]; exact t3, by rw [e _ (by omega) (by omega) (by omega)]; exact t4, fun j hj => by rw [e _ (by omega) (by omega) (by omega)]; exact t5 j hj, fun j hj => by rw [e _ (by omega) (by omega) (by omega)]; exact t6 j hj, fun j hj => by rw [e _ (by omega) (by omega) (by omega)]; exact t7 j hj, fun j hj => by rw [e _ (by omega) (by omega) (by omega)]; exact t8 j hj, o, t9, t10, fun j hj => by rw [e _ (by omega) (by omega) (by omega)]; exact t11 j hj⟩
/-- all that law() may change in the class -/
def m_cl (a k : Nat) : Bool := m_ll a k || (a == 0 && k == 19) || (a == 1 && k == 1) || (Nat.ble 42 a && Nat.ble a 46) || (a == 64 && k == 2)
theorem k_Xlaw (X : Sx) (d : Nat) (I : Ii) (T : Tt) {B : Nat → Nat} {N n m : Nat} (G : Nat → Nat) (p z : Nat) (H : Nat → Nat → Int32) (h : k_S I n m G p z H) (hT : z_Ta I B N) : (∀ e, P_law B N = some (.error e) → ∃ K, c_X11_law_0 X (d + 28) I T = z_x 0 K T ∧ K 0 19 = nI e ∧ K 1 1 = 0 ∧ k_S K n m G p z H ∧ z_fr m_cl I K) ∧ (∀ Ls r', P_law B N = some (.ok Ls) → R_lo r' → R_ls r' = Ls → r' 1 = nI Ls.length → (∀ i, i < 484 → i ≠ 1 → i ≠ 2 → r' i = H z i) → ∃ K, c_X11_law_0 X (d + 28) I T = z_r (nI Ls.length) K T ∧ K 0 19 = -1 ∧ K 1 1 = 0 ∧ k_S K n m (fun _ => G z) p 0 (fun _ => r') ∧ z_fr m_cl I K) := by
  obtain ⟨hp12, hz12, g1, g2, hM, hM2, hG⟩ := id h
  obtain ⟨M1, M2, M3, M4, M5⟩ := hM
  have hn := M1.2.1
  have hm := M1.2.2.2.1
  have hN := hT.1
  have R := k_ltext X d I T hT
  have ll0 : ∀ {a k}, m_ll a k = true → (a = 1 ∧ 2 ≤ k ∧ k ≤ 6) ∨ (48 ≤ a ∧ a ≤ 52) := by
    intro a k hr
    simp [m_ll, m_lr, m_ta] at hr
    omega
  have outC : ∀ {C : Ii}, z_fr m_ll I C → ∀ a k, ¬ ((a = 1 ∧ 2 ≤ k ∧ k ≤ 6) ∨ (48 ≤ a ∧ a ≤ 52)) → C a k = I a k := by
    intro C hf a k hc
    refine hf a k ?_
    cases e : m_ll a k
    · rfl
    · exact absurd (ll0 e) hc
  rw [e_X11_law_0]
  refine ⟨fun e he => ?_, fun Ls r' hL hlo hls h1 hr => ?_⟩
  · obtain ⟨C, x1, x2, x3, x4⟩ := R.2 e he
    have o := outC x4
    have row : ∀ a, 2 ≤ a → (a < 48 ∨ 52 < a) → (q_w (q_w C 0 19 (nI e)) 1 1 0) a = I a := fun a h0 h1 => by
      rw [z_w_a _ _ _ _ _ (by omega), z_w_a _ _ _ _ _ (by omega)]
      exact funext (fun k => o a k (by omega))
    refine ⟨q_w (q_w C 0 19 (nI e)) 1 1 0, ?_, by rw [z_w_a _ _ _ _ _ (by decide), z_w_s], z_w_s _ _ _ _, k_S_fr h (fun a x y => row a (by omega) (by omega)) (by rw [row 42 (by omega) (by omega)]) (fun a x y => row a (by omega) (by omega)) (fun a x y => row a (by omega) (by omega)) ⟨by rw [row 64 (by omega) (by omega)], by rw [row 64 (by omega) (by omega)]⟩ (fun a x y => row a (by omega) (by omega)) (row 61 (by omega) (by omega)), z_fr_w (z_fr_w (z_fr_m x4 (fun a k h => by simp [m_cl, h])) 0 19 _ rfl) 1 1 _ rfl⟩
    rw [x1]
    simp (disch := omega) only [e_X11_law_0_3, k_X11_law_0_3, e_X11_law_0_12, x2, q_bd_l, z_ltT, z_ltF, z_eqT, z_eqF, z_ltlT, z_ltlF, z_lltT, z_lltF, z_eqlT, z_eqlF, z_in, z_k7, z_cl, z_lneg, z_llT, z_llF, z_s1, z_nI_cl, z_nlt0, z_ne_m1, z_b0, z_b1, z_la, z_al, z_lm, z_ml, z_nm, nI_add, pk_mul, ↓reduceIte, not_true_eq_false, not_false_eq_true, true_or, or_true, false_or, or_false, true_and, and_true, and_false, false_and, Classical.not_not, Nat.add_zero, z_01, z_em, z_bit_p, Nat.not_le, Nat.not_lt, reduceCtorEq, if_true, if_false]
    rfl
  · obtain ⟨C, S, x1, x2, x3, x4⟩ := R.1 Ls hL
    rw [List.nil_append] at x2
    have o := outC x4
    have hE : ∀ i, i < 184 → i ≠ 1 → i ≠ 2 → r' i = H z i := fun i h1 h2 h3 => hr i (by omega) h2 h3
    generalize hEe : q_w (q_w C 0 19 (-1)) 1 1 0 = E
    have oE : ∀ a, 2 ≤ a → E a = C a := fun a h0 => by rw [← hEe, z_w_a _ _ _ _ _ (by omega), z_w_a _ _ _ _ _ (by omega)]
    have La : z_La E 48 r' := by
      refine ⟨hlo, ?_, fun _ => ?_⟩
      · rw [oE 48 (by omega), h1]; exact x2.1
      · rw [hls]
        refine ⟨by rw [← x2.2.2.1]; omega, fun i hi => ?_⟩
        obtain ⟨b1, b2, b3⟩ := x2.2.2.2.1 i hi
        obtain ⟨b4, b5⟩ := x2.2.2.2.2 i hi
        refine ⟨by rw [oE _ (by omega)]; exact b1, by rw [oE _ (by omega)]; exact b2, by rw [oE _ (by omega)]; exact b3, fun t ht => ?_⟩
        have b6 : r_E Ls (i + 1) = r_E Ls i + (r_at Ls i).2.2.1.length := rfl
        rw [oE _ (by omega)]
        exact (x2.2.1.2 _ (by omega)).trans (b5 t ht)
    have F1 := fun a hh => k_cL_o E 48 42 a hh
    have oK : ∀ a, 2 ≤ a → (a < 42 ∨ 52 < a) → a ≠ 64 → q_w (k_cL E 48 42) 64 2 0 a = I a := fun a h0 h1 h2 => by
      rw [z_w_a _ _ _ _ _ h2, F1 a (by omega), oE a (by omega)]
      exact funext (fun k => o a k (by omega))
    have LaK : z_La (q_w (k_cL E 48 42) 64 2 0) 42 r' := z_La_fr (k_cL_La E 48 42 r' (by omega) La) (by rw [z_w_a _ _ _ _ _ (by decide)]) (fun a x y => z_w_a _ _ _ _ _ (by omega))
    refine ⟨q_w (k_cL E 48 42) 64 2 0, ?_, ?_, ?_, ⟨hp12, by omega, ?_, z_w_s _ _ _ _, ⟨R_ok_e M1 hE, ?_, LaK, ?_, ?_⟩, fun i hi => by omega, fun i j _ _ => by simp⟩, ?_⟩
    · have e42 : q_w (k_cL E 48 42) 64 2 0 42 0 = nI Ls.length := by rw [LaK.2.1]; exact h1
      rw [x1]
      simp (disch := omega) only [e_X11_law_0_3, k_X11_law_0_3, e_X11_law_0_12, e_X11_law_0_29, k_X11_law_0_29, e_X11_law_0_32, k_X11_law_0_32, hEe, k_becL_42_48, k_forget, e42, q_bd_l, z_ltT, z_ltF, z_eqT, z_eqF, z_ltlT, z_ltlF, z_lltT, z_lltF, z_eqlT, z_eqlF, z_in, z_k7, z_cl, z_lneg, z_llT, z_llF, z_s1, z_nI_cl, z_nlt0, z_ne_m1, z_b0, z_b1, z_la, z_al, z_lm, z_ml, z_nm, nI_add, pk_mul, ↓reduceIte, not_true_eq_false, not_false_eq_true, true_or, or_true, false_or, or_false, true_and, and_true, and_false, false_and, Classical.not_not, Nat.add_zero, z_01, z_em, z_bit_p, Nat.not_le, Nat.not_lt, reduceCtorEq, if_true, if_false]
    · rw [z_w_a _ _ _ _ _ (by decide), F1 0 (by omega), ← hEe, z_w_a _ _ _ _ _ (by decide), z_w_s]
    · rw [z_w_a _ _ _ _ _ (by decide), F1 1 (by omega), ← hEe, z_w_s]
    · rw [z_w_k _ _ _ _ _ (by decide), F1 64 (by omega), oE 64 (by omega), o 64 1 (by omega)]; exact g1
    · exact z_Sh_e (z_Sh_fr M2 (fun a x y => oK a (by omega) (by omega) (by omega))) hn hm hE
    · exact z_Mo_e (z_Mo_fr M4 (fun a x y => oK a (by omega) (by omega) (by omega))) hn hE
    · refine ⟨by rw [oK 27 (by omega) (by omega) (by omega)]; exact M5.1, fun i c hi hi2 hc => ?_⟩
      dsimp only at hi ⊢
      rw [hr 10 (by omega) (by omega) (by omega)] at hi
      rw [oK 61 (by omega) (by omega) (by omega), M5.2 i c hi hi2 hc, hr _ (by omega) (by omega) (by omega)]
    · intro a k hmk
      have c1 : ¬ ((a = 1 ∧ 2 ≤ k ∧ k ≤ 6) ∨ (48 ≤ a ∧ a ≤ 52)) ∨ m_ll a k = false := by
        refine .inr ?_
        cases e : m_ll a k
        · rfl
        · simp [m_cl, e] at hmk
      have nm : ¬ (a = 0 ∧ k = 19) ∧ ¬ (a = 1 ∧ k = 1) ∧ ¬ (42 ≤ a ∧ a ≤ 46) ∧ ¬ (a = 64 ∧ k = 2) := by
        refine ⟨fun c => ?_, fun c => ?_, fun c => ?_, fun c => ?_⟩ <;> (have : m_cl a k = true := by (simp [m_cl]; omega)) <;> (rw [this] at hmk; cases hmk)
      have hll : m_ll a k = false := by
        cases e : m_ll a k
        · rfl
        · simp [m_cl, e] at hmk
      rw [z_w, if_neg nm.2.2.2]
      by_cases a47 : a = 47
      · subst a47
        rw [F1 47 (by omega), oE 47 (by omega), x4 47 k hll]
      · rw [F1 a (by omega), ← hEe, z_w, if_neg nm.2.1, z_w, if_neg nm.1]
        exact x4 a k hll
