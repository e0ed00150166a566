/-! ===== THE CLASS: asking and mixing ===== -/
theorem R_log_lo (j o t a : Int32) (r : Nat → Int32) (i : Nat) (h : i < 184 ∨ 484 ≤ i) (h2 : i ≠ 10) : R_log j o t a r i = r i := by
  unfold R_log
  rw [if_neg h2, if_neg (by omega), if_neg (by omega), if_neg (by omega), if_neg (by omega), if_neg (by omega), if_neg (by omega)]
theorem R_ok_cg {r r' : Nat → Int32} {n m : Nat} (h : R_ok r n m) (hr : ∀ i, i < 184 → i ≠ 10 → r' i = r i) (h10 : z_le (r' 10) 60) : R_ok r' n m := by
  obtain ⟨a1, a2, a3, a4, a5, a6, a7, a8, a9, b1, b2, b3⟩ := h
  refine ⟨?_, a2, ?_, a4, ?_, ?_, ?_, ?_, h10, ?_, ?_, ?_⟩
  · rw [hr 3 (by omega) (by omega)]; exact a1
  · rw [hr 4 (by omega) (by omega)]; exact a3
  · rw [hr 0 (by omega) (by omega)]; exact a5
  · rw [hr 5 (by omega) (by omega)]; exact a6
  · rw [hr 6 (by omega) (by omega)]; exact a7
  · rw [hr 7 (by omega) (by omega)]; exact a8
  · intro p hp; rw [hr _ (by omega) (by omega)]; exact b1 p hp
  · intro j hj
    obtain ⟨c1, c2, c3, c4, c5, c6, c7, c8⟩ := b2 j hj
    refine ⟨?_, ?_, ?_, ?_, ?_, ?_, ?_, ?_⟩
    · rw [hr _ (by omega) (by omega)]; exact c1
    · rw [hr _ (by omega) (by omega)]; exact c2
    · rw [hr _ (by omega) (by omega)]; exact c3
    · rw [hr _ (by omega) (by omega)]; exact c4
    · rw [hr _ (by omega) (by omega)]; exact c5
    · rw [hr _ (by omega) (by omega)]; exact c6
    · rw [hr _ (by omega) (by omega)]; exact c7
    · intro t ht; rw [hr _ (by omega) (by omega)]; exact c8 t ht
  · intro k hk
    rw [hr _ (by omega) (by omega), hr _ (by omega) (by omega)]
    exact b3 k hk
theorem z_Sh_cg {I : Ii} {sh : Nat} {r r' : Nat → Int32} {n m : Nat} (h : z_Sh I sh r n m) (hn : n ≤ 10) (hm : m ≤ 10) (hr : ∀ i, i < 184 → i ≠ 10 → r' i = r i) : z_Sh I sh r' n m := by
  obtain ⟨b1, b2, b3, b4, b5, b6, c1, c2, c3, c4, c5, c6, c7⟩ := h
  refine ⟨?_, ?_, ?_, ?_, ?_, ?_, ?_, ?_, ?_, ?_, ?_, ?_, ?_⟩
  · rw [hr 3 (by omega) (by omega)]; exact b1
  · rw [hr 4 (by omega) (by omega)]; exact b2
  · rw [hr 5 (by omega) (by omega)]; exact b3
  · rw [hr 6 (by omega) (by omega)]; exact b4
  · rw [hr 7 (by omega) (by omega)]; exact b5
  · rw [hr 0 (by omega) (by omega)]; exact b6
  · intro j hj; rw [hr _ (by omega) (by omega)]; exact c1 j hj
  · intro j hj; rw [hr _ (by omega) (by omega)]; exact c2 j hj
  · intro j t hj ht; rw [hr _ (by omega) (by omega)]; exact c3 j t hj ht
  · intro p hp; rw [hr _ (by omega) (by omega)]; exact c4 p hp
  · intro k hk; rw [hr _ (by omega) (by omega)]; exact c5 k hk
  · intro k hk; rw [hr _ (by omega) (by omega)]; exact c6 k hk
  · intro k hk; rw [hr _ (by omega) (by omega)]; exact c7 k hk
theorem z_La_cg {I : Ii} {la : Nat} {r r' : Nat → Int32} (h : z_La I la r) (h1 : r' 1 = r 1) (h2 : r' 2 = r 2) (h3 : ∀ k, r' (484 + k) = r (484 + k)) : z_La I la r' := by
  have et : r_text r' = r_text r := by
    funext k
    unfold r_text
    rw [h3]
  have el : R_ls r' = R_ls r := by unfold R_ls; rw [et, h2]
  have eo : R_lo r' = R_lo r := by unfold R_lo; simp only [et, h1, h2, h3]
  unfold z_La at h ⊢
  rw [el, eo, h1]
  exact h
theorem z_Mo_log {I J : Ii} {r : Nat → Int32} {n : Nat} (h : z_Mo I 27 r n) (hn : n ≤ 10) (j o t a : Int32) (hf : z_fr m_en I J) (h9 : J 27 9 = R_log j o t a r 10) : z_Mo J 27 (R_log j o t a r) n := by
  obtain ⟨b1, b2, b3, b4, b5, b6, b7, b8, p, b9, b10, b11⟩ := h
  have hr := fun i h1 h2 => R_log_lo j o t a r i h1 h2
  refine ⟨?_, ?_, ?_, h9, ?_, ?_, ?_, ?_, p, b9, (hf 27 4 rfl).trans b10, ?_⟩
  · rw [hr 8 (by omega) (by omega)]; exact (hf 27 5 rfl).trans b1
  · rw [hr 9 (by omega) (by omega)]; exact (hf 27 7 rfl).trans b2
  · rw [hr 11 (by omega) (by omega)]; exact (hf 27 6 rfl).trans b3
  · intro i hi; rw [hr _ (by omega) (by omega)]; exact (hf 28 i rfl).trans (b5 i hi)
  · intro i hi; rw [hr _ (by omega) (by omega)]; exact (hf 29 i rfl).trans (b6 i hi)
  · intro i hi; rw [hr _ (by omega) (by omega)]; exact (hf 30 i rfl).trans (b7 i hi)
  · intro i hi; rw [hr _ (by omega) (by omega)]; exact (hf 31 i rfl).trans (b8 i hi)
  · intro i hi; rw [hr _ (by omega) (by omega)]; exact b11 i hi
theorem k_M_take {J K : Ii} {r : Nat → Int32} {n m g j : Nat} (h : k_M J 27 r n m g) (hj : j < n) (hs : r (12 + 13 * j + 2) ≠ 0) (hf : z_fr (m_mo 27) J K) (h8 : K 27 8 = J 27 8) (hfo : ∀ a, a < 27 ∨ 31 < a → a ≠ 42 → a ≠ 47 → K a = J a) (h42 : K 42 0 = J 42 0) (hM : z_Mo K 27 (R_take j r) n) : k_M K 27 (R_take j r) n m g := by
  have hn := h.1.2.1
  have hm := h.1.2.2.2.1
  obtain ⟨x, hx, ex⟩ := (h.1.2.2.2.2.2.2.2.2.2.2.1 j hj).2.2.1
  have hx0 : 1 ≤ x := by
    rcases Nat.eq_zero_or_pos x with e | e
    · subst e; exact absurd ex hs
    · exact e
  have hv : z_le (r (12 + 13 * j + 2) - 1) 20 := ⟨x - 1, by omega, by rw [ex]; exact pk_sub (a := x) (b := 1) hx0⟩
  have mc : ∀ w, (w = 1 ∨ w = 2 ∨ w = 3 ∨ w = 5 ∨ w = 6) → r_mc (12 + 13 * j + w) := fun w hw => .inr (.inr (.inr (.inr (.inl ⟨j, w, by omega, rfl, hw⟩))))
  refine ⟨R_ok_w6 (R_ok_w2 h.1 j hj _ hv) j hj 1 ⟨1, by omega, rfl⟩, ?_, ?_, hM, ?_⟩
  · exact z_Sh_fr (z_Sh_up (z_Sh_up h.2.1 hn hm (mc 2 (by omega)) _) hn hm (mc 6 (by omega)) _) (fun a x y => hfo a (by omega) (by omega) (by omega))
  · exact z_La_fr (z_La_up (z_La_up h.2.2.1 (by omega) (by omega) _) (by omega) (by omega) _) h42 (fun a x y => hfo a (by omega) (by omega) (by omega))
  · exact z_Lg_fr (z_Lg_up (z_Lg_up h.2.2.2.2 (by omega) (by omega) _) (by omega) (by omega) _) h8 (hfo 61 (by omega) (by omega) (by omega))
theorem k_S_enter (X : Sx) (d : Nat) (T : Tt) {B C : Ii} {n m : Nat} {G : Nat → Nat} {p z : Nat} {H : Nat → Nat → Int32} (h : k_S B n m G p z H) (hz : 1 ≤ z) (hG : G (z - 1) = G z) (r' : Nat → Int32) (hC : k_M C 27 r' n m (G z)) (hfo : ∀ a, a < 27 ∨ 31 < a → a ≠ 42 → a ≠ 47 → C a = B a) (h42 : C 42 0 = B 42 0) (v u w x : Int32) : ∃ D, c_X6_enter_60_27 X (d + 1) v u w x C T = z_v D T ∧ z_fr m_en C D ∧ k_S D n m (k_up z G (G z + 1)) p z (k_up z H (R_log v u w x r')) := by
  have hn := hC.1.2.1
  have hm := hC.1.2.2.2.1
  obtain ⟨L, h60, hL⟩ := hC.1.2.2.2.2.2.2.2.2.1
  have h9 : C 27 9 = nI L := hC.2.2.2.1.2.2.2.1.trans hL
  have h5 : C 27 5 = r' 8 := hC.2.2.2.1.1
  obtain ⟨D, d1, d2, d3, d4, d5⟩ := k_enter X d C T r' (G z) L v u w x hC.2.2.2.2 h9 h5 hL h60
  have dr : ∀ a, a ≠ 27 → a ≠ 61 → D a = C a := by
    intro a b1 b2
    funext k
    refine d2 a k ?_
    cases hq : m_en a k with
    | false => rfl
    | true => exfalso; simp [m_en] at hq; omega
  have lo := fun i a b => R_log_lo v u w x r' i a b
  have hz12 := h.2.1
  refine ⟨D, d1, d2, ?_⟩
  refine k_S_upd h hz hG _ _ ⟨by omega, Nat.le_refl _⟩ ?_ (fun a x y => by rw [dr a (by omega) (by omega), hfo a (by omega) (by omega) (by omega)]) (by rw [dr 42 (by omega) (by omega)]; exact h42) (fun a x y => by rw [dr a (by omega) (by omega), hfo a (by omega) (by omega) (by omega)]) (fun a x y => by rw [dr a (by omega) (by omega), hfo a (by omega) (by omega) (by omega)]) ⟨by rw [dr 64 (by omega) (by omega), hfo 64 (by omega) (by omega) (by omega)], by rw [dr 64 (by omega) (by omega), hfo 64 (by omega) (by omega) (by omega)]⟩ (fun i hi => ?_)
  · refine ⟨R_ok_cg hC.1 (fun i a b => lo i (.inl a) b) ?_, z_Sh_fr (z_Sh_cg hC.2.1 hn hm (fun i a b => lo i (.inl a) b)) (fun a x y => dr a (by omega) (by omega)), z_La_fr (z_La_cg hC.2.2.1 (lo 1 (by omega) (by omega)) (lo 2 (by omega) (by omega)) (fun k => lo _ (by omega) (by omega))) (by rw [dr 42 (by omega) (by omega)]) (fun a x y => dr a (by omega) (by omega)), z_Mo_log hC.2.2.2.1 hn v u w x d2 d4, d3⟩
    show z_le (if 60 < r' 10 + 1 then 60 else r' 10 + 1) 60
    have e60 : (60 : Int32) = nI 60 := rfl
    rw [hL, nI_1, e60]
    by_cases c : 60 < L + 1
    · rw [if_pos (nI_lt (a := 60) c (by omega))]; exact ⟨60, by omega, rfl⟩
    · rw [if_neg (nI_nlt (a := 60) (by omega) (by omega))]; exact ⟨L + 1, by omega, rfl⟩
  · have hb := k_at_b p z i
    have g1 := h.2.2.2.2.2.2 i (z - 1) (by omega) (by omega)
    have hk := (h.2.2.2.2.2.1 i hi).2.2.2.2
    refine d5 _ _ _ (by omega) (by omega) (by omega) (by omega) ?_
    exact z_Lg_fr hk (by rw [hfo _ (by omega) (by omega) (by omega)]) (hfo 61 (by omega) (by omega) (by omega))
theorem mo_row {J K : Ii} (hf : z_fr (m_mo 27) J K) (a : Nat) (h : a < 27 ∨ 31 < a) (h1 : a ≠ 42) (h2 : a ≠ 47) : K a = J a := by
  funext k
  refine hf a k ?_
  cases hq : m_mo 27 a k with
  | false => rfl
  | true => exfalso; simp [m_mo, m_la] at hq; omega
theorem m_ac_mo {I J : Ii} (h : z_fr (m_mo 27) I J) : z_fr m_ac I J := z_fr_m h (fun a k e => by
  simp [m_mo] at e
  rcases e with (e | e) | e
  · simp [m_ac, m_cs, e]
  · simp [m_ac, e.1]
  · have e1 : Nat.ble 27 a = true := by rw [Nat.ble_eq]; omega
    have e2 : Nat.ble a 31 = true := by rw [Nat.ble_eq]; omega
    simp [m_ac, e1, e2])
theorem m_ac_en {I J : Ii} (h : z_fr m_en I J) : z_fr m_ac I J := z_fr_m h (fun a k e => by
  simp [m_en] at e
  rcases e with e | e
  · simp [m_ac, e]
  · simp [m_ac, e.1])
theorem k_Xask1 (X : Sx) (d : Nat) (I : Ii) (T : Tt) (n m : Nat) (G : Nat → Nat) (p z : Nat) (H : Nat → Nat → Int32) (h : k_S I n m G p z H) (j t : Nat) (hj : j < n) (ht : t < 6) (hs : H z (12 + 13 * j + 2) ≠ 0) : ∃ K, c_X11_ask_0 X (d + 12) (nI j) (nI t) I T = z_r (R_adv (H z) j t) K T ∧ z_fr m_ac I K ∧ k_S K n m (k_up (k_z z) (k_H' z G) (G z + 1)) ((p + 1) % 12) (k_z z) (k_up (k_z z) (k_H' z H) (R_log (nI j) (-1) (nI t) (R_adv (H z) j t) (R_take j (H z)))) := by
  have h27 := k_S_27 h
  have hn := h27.1.2.1
  have n3 := k_n3 h27
  obtain ⟨A, a1, a2⟩ := k_adv128 X (d + 6) I T (H z) n m j t h27 hj ht
  have hA := k_S_cs h (z_cs_la a2)
  obtain ⟨J, j1, j2, j3⟩ := k_S_rem X (d + 9) A T n m G p z H hA
  obtain ⟨e1, e2, e3⟩ := k_H'_eq z G h.2.1
  obtain ⟨-, -, f3⟩ := k_H'_eq z H h.2.1
  have hJ := j3.2.2.2.2.1
  rw [e3, f3] at hJ
  obtain ⟨C, c1, c2, c3⟩ := k_useSpoon27 X (d + 10) J T (H z) n j hJ.2.2.2.1 hn hj
  have hfo := fun a x y w => mo_row c2 a x y w
  have hC := k_M_take hJ hj hs c2 (c2 27 8 rfl) hfo (c2 42 0 rfl) c3
  obtain ⟨D, d1, d2, d3⟩ := k_S_enter X (d + 10) T j3 e1 e2 (R_take j (H z)) (by rw [e3]; exact hC) hfo (c2 42 0 rfl) (nI j) (-1) (nI t) (R_adv (H z) j t)
  rw [e3] at d3
  refine ⟨D, ?_, z_fr_t (m_ac_cs (z_cs_la a2)) (z_fr_t (m_ac_hi j2) (z_fr_t (m_ac_mo c2) (m_ac_en d2))), d3⟩
  rw [e_X11_ask_0, k_needJar1 X _ I T n j n3 hn hj]
  simp (disch := omega) only [e_X11_ask_0_3, k_X11_ask_0_3, e_X11_ask_0_5, k_X11_ask_0_5, e_X11_ask_0_8, k_X11_ask_0_8, e_X11_ask_0_13, k_X11_ask_0_13, e_X11_ask_0_19, k_X11_ask_0_19, e_X11_ask_0_23, k_X11_ask_0_23, e_X11_ask_0_32, k_X11_ask_0_32, k_needMatter1, k_needSpoon1 X _ I T (H z) n m j h27 hj hs, a1, j1, c1, d1, q_bd_l, z_ltT, z_ltF, z_eqT, z_eqF, z_ltlT, z_ltlF, z_lltT, z_lltF, z_eqlT, z_eqlF, z_in, z_k7, z_cl, z_lneg, z_llT, z_llF, z_s1, z_nI_cl, z_nlt0, z_ne_m1, z_b0, z_b1, z_la, z_al, z_lm, z_ml, z_nm, nI_add, pk_mul, ↓reduceIte, not_true_eq_false, not_false_eq_true, true_or, or_true, false_or, or_false, true_and, and_true, and_false, false_and, Classical.not_not, Nat.add_zero, z_01, z_em, z_bit_p, Nat.not_le, Nat.not_lt, reduceCtorEq, if_true, if_false]
theorem k_Xask0 (X : Sx) (d : Nat) (I : Ii) (T : Tt) (r : Nat → Int32) (n m : Nat) (h : k_H27 I r n m) (v u c : Int32) (hc : c = 1 ∧ z_no v n ∨ c = 1 ∧ (∃ k, k < n ∧ v = nI k) ∧ z_no u 6 ∨ c = 2 ∧ ∃ j t, j < n ∧ t < 6 ∧ v = nI j ∧ u = nI t ∧ r (12 + 13 * j + 2) = 0) : c_X11_ask_0 X (d + 12) v u I T = z_x (if c = 1 then 2 else 4) I T := by
  have hn := h.1.2.1
  have n3 := k_n3 h
  rw [e_X11_ask_0]
  rcases hc with ⟨e, h0⟩ | ⟨e, ⟨j, hj, rfl⟩, h0⟩ | ⟨e, j, t, hj, ht, rfl, rfl, hs⟩
  · rw [k_needJar0 X _ v I T n n3 h0, z_x_bd, if_pos e]
  · rw [k_needJar1 X _ I T n j n3 hn hj, if_pos e]
    simp (disch := omega) only [e_X11_ask_0_3, k_X11_ask_0_3, e_X11_ask_0_5, k_X11_ask_0_5, e_X11_ask_0_8, k_X11_ask_0_8, e_X11_ask_0_13, k_X11_ask_0_13, e_X11_ask_0_19, k_X11_ask_0_19, e_X11_ask_0_23, k_X11_ask_0_23, e_X11_ask_0_32, k_X11_ask_0_32, k_needMatter0 X _ u I T h0, z_x_bd, q_bd_l, z_ltT, z_ltF, z_eqT, z_eqF, z_ltlT, z_ltlF, z_lltT, z_lltF, z_eqlT, z_eqlF, z_in, z_k7, z_cl, z_lneg, z_llT, z_llF, z_s1, z_nI_cl, z_nlt0, z_ne_m1, z_b0, z_b1, z_la, z_al, z_lm, z_ml, z_nm, nI_add, pk_mul, ↓reduceIte, not_true_eq_false, not_false_eq_true, true_or, or_true, false_or, or_false, true_and, and_true, and_false, false_and, Classical.not_not, Nat.add_zero, z_01, z_em, z_bit_p, Nat.not_le, Nat.not_lt, reduceCtorEq, if_true, if_false]
  · have e1 : ¬ c = 1 := by rw [e]; decide
    rw [k_needJar1 X _ I T n j n3 hn hj, if_neg e1]
    simp (disch := omega) only [e_X11_ask_0_3, k_X11_ask_0_3, e_X11_ask_0_5, k_X11_ask_0_5, e_X11_ask_0_8, k_X11_ask_0_8, e_X11_ask_0_13, k_X11_ask_0_13, e_X11_ask_0_19, k_X11_ask_0_19, e_X11_ask_0_23, k_X11_ask_0_23, e_X11_ask_0_32, k_X11_ask_0_32, k_needMatter1, k_needSpoon0 X _ I T r n m j h hj hs, z_x_bd, q_bd_l, z_ltT, z_ltF, z_eqT, z_eqF, z_ltlT, z_ltlF, z_lltT, z_lltF, z_eqlT, z_eqlF, z_in, z_k7, z_cl, z_lneg, z_llT, z_llF, z_s1, z_nI_cl, z_nlt0, z_ne_m1, z_b0, z_b1, z_la, z_al, z_lm, z_ml, z_nm, nI_add, pk_mul, ↓reduceIte, not_true_eq_false, not_false_eq_true, true_or, or_true, false_or, or_false, true_and, and_true, and_false, false_and, Classical.not_not, Nat.add_zero, z_01, z_em, z_bit_p, Nat.not_le, Nat.not_lt, reduceCtorEq, if_true, if_false]
