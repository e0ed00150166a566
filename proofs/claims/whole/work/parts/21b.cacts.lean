/-! ===== THE CLASS: acts ===== -/
def k_up (z : Nat) {α : Type} (F : Nat → α) (v : α) : Nat → α := fun i => if i = z then v else F i
theorem k_up_s (z : Nat) {α : Type} (F : Nat → α) (v : α) : k_up z F v z = v := if_pos rfl
theorem k_up_n {z i : Nat} {α : Type} (F : Nat → α) (v : α) (h : i ≠ z) : k_up z F v i = F i := if_neg h
theorem k_up_id (z : Nat) {α : Type} (F : Nat → α) : k_up z F (F z) = F := by
  funext i
  by_cases h : i = z
  · subst h; exact k_up_s _ _ _
  · exact k_up_n _ _ h
theorem z_Lg_up {I : Ii} {mo bk : Nat} {r : Nat → Int32} {g i : Nat} (h : z_Lg I mo bk r g) (h1 : i < 184) (h2 : i ≠ 10) (v : Int32) : z_Lg I mo bk (va_up r i v) g := ⟨h.1, fun k c a b e => by
  rw [ru_ne (by omega)] at a
  rw [ru_ne (by omega)]
  exact h.2 k c a b e⟩
theorem k_S_upd {I J : Ii} {n m : Nat} {G : Nat → Nat} {p z : Nat} {H : Nat → Nat → Int32} (h : k_S I n m G p z H) (hz : 1 ≤ z) (hG : G (z - 1) = G z) (r' : Nat → Int32) (g' : Nat) (hg : G z ≤ g' ∧ g' ≤ G z + 1) (hM : k_M J 27 r' n m g') (h1 : ∀ a, 3 ≤ a → a ≤ 10 → J a = I a) (h2 : J 42 0 = I 42 0) (h3 : ∀ a, 42 < a → a ≤ 46 → J a = I a) (h4 : ∀ a, 66 ≤ a → a ≤ 125 → J a = I a) (h6 : J 64 1 = I 64 1 ∧ J 64 2 = I 64 2) (hL : ∀ i, i < z → z_Lg J (k_at p z i) 61 (H i) (G i)) : k_S J n m (k_up z G g') p z (k_up z H r') := by
  obtain ⟨a1, a2, a3, a4, a5, a6, a7⟩ := h
  refine ⟨a1, a2, h6.1.trans a3, h6.2.trans a4, ?_, ?_, ?_⟩
  · rw [k_up_s, k_up_s]; exact hM
  · intro i hi
    rw [k_up_n _ _ (by omega), k_up_n _ _ (by omega)]
    have hb := k_at_b p z i
    exact k_M_fr (a6 i hi) h1 h2 h3 (fun a x y => h4 a (by omega) (by omega)) (hL i hi)
  · intro i j hij hj
    by_cases ej : j = z
    · subst ej
      rw [k_up_s]
      by_cases ei : i = j
      · subst ei; rw [k_up_s]; omega
      · rw [k_up_n _ _ ei]
        have := a7 i (j - 1) (by omega) (by omega)
        omega
    · rw [k_up_n _ _ ej, k_up_n _ _ (by omega)]
      exact a7 i j hij (by omega)
theorem k_S_fr {I J : Ii} {n m : Nat} {G : Nat → Nat} {p z : Nat} {H : Nat → Nat → Int32} (h : k_S I n m G p z H) (h1 : ∀ a, 3 ≤ a → a ≤ 10 → J a = I a) (h2 : J 42 0 = I 42 0) (h3 : ∀ a, 42 < a → a ≤ 46 → J a = I a) (h4 : ∀ a, 66 ≤ a → a ≤ 125 → J a = I a) (h6 : J 64 1 = I 64 1 ∧ J 64 2 = I 64 2) (h7 : ∀ a, 27 ≤ a → a ≤ 31 → J a = I a) (h8 : J 61 = I 61) : k_S J n m G p z H := by
  obtain ⟨a1, a2, a3, a4, a5, a6, a7⟩ := h
  refine ⟨a1, a2, h6.1.trans a3, h6.2.trans a4, ?_, ?_, a7⟩
  · exact k_M_fr a5 h1 h2 h3 (fun a x y => h7 a (by omega) (by omega)) (z_Lg_fr a5.2.2.2.2 (by rw [h7 27 (by omega) (by omega)]) h8)
  · intro i hi
    have hb := k_at_b p z i
    exact k_M_fr (a6 i hi) h1 h2 h3 (fun a x y => h4 a (by omega) (by omega)) (z_Lg_fr (a6 i hi).2.2.2.2 (by rw [h4 _ hb.1 (by omega)]) h8)
theorem k_S_cs {I J : Ii} {n m : Nat} {G : Nat → Nat} {p z : Nat} {H : Nat → Nat → Int32} (h : k_S I n m G p z H) (hf : z_fr m_cs I J) : k_S J n m G p z H := by
  have ob : ∀ a, (3 ≤ a ∧ a ≤ 10 ∨ 42 < a ∧ a ≤ 46 ∨ 66 ≤ a ∧ a ≤ 125 ∨ 27 ≤ a ∧ a ≤ 31 ∨ a = 61) → J a = I a := by
    intro a ha
    funext k
    refine hf a k ?_
    cases hq : m_cs a k with
    | false => rfl
    | true => exfalso; simp [m_cs, m_la] at hq; omega
  exact k_S_fr h (fun a x y => ob a (by omega)) (hf 42 0 rfl) (fun a x y => ob a (by omega)) (fun a x y => ob a (by omega)) ⟨hf 64 1 rfl, hf 64 2 rfl⟩ (fun a x y => ob a (by omega)) (ob 61 (by omega))
/-- behind remembering, the moment ahead of now is now -/
theorem k_H'_eq (z : Nat) {α : Type} (F : Nat → α) (hz : z ≤ 12) : 1 ≤ k_z z ∧ k_H' z F (k_z z - 1) = k_H' z F (k_z z) ∧ k_H' z F (k_z z) = F z := by
  have zk : 1 ≤ k_z z ∧ k_z z + k_sh z = z + 1 := by unfold k_z k_sh; split <;> omega
  have e1 : k_H' z F (k_z z) = F z := by unfold k_H'; rw [if_neg (by omega)]
  refine ⟨zk.1, ?_, e1⟩
  rw [e1]
  unfold k_H'
  rw [if_pos (by omega)]
  congr 1
  omega
theorem hi_row {I J : Ii} (hf : z_fr m_hi I J) (a : Nat) (h : a < 64 ∨ a = 65 ∨ 125 < a) : J a = I a := by
  funext k
  refine hf a k ?_
  cases hq : m_hi a k with
  | false => rfl
  | true => exfalso; simp [m_hi] at hq; omega
/-- an act that changes now's cells 27..31 only, no log -/
theorem k_S_now {J K : Ii} {n m : Nat} {G : Nat → Nat} {p z : Nat} {H : Nat → Nat → Int32} (h : k_S J n m G p z H) (hz : 1 ≤ z) (hG : G (z - 1) = G z) (r' : Nat → Int32) (hf : ∀ a, a < 27 ∨ 31 < a → K a = J a) (h8 : K 27 8 = J 27 8) (hM : z_Mo K 27 r' n) (hok : R_ok r' n m) (hSh : z_Sh J 3 r' n m) (hLa : z_La J 42 r') (hLg : z_Lg J 27 61 r' (G z)) : k_S K n m G p z (k_up z H r') := by
  have := k_S_upd (J := K) h hz hG r' (G z) ⟨Nat.le_refl _, by omega⟩ ⟨hok, z_Sh_fr hSh (fun a x y => hf a (by omega)), z_La_fr hLa (by rw [hf 42 (by omega)]) (fun a x y => hf a (by omega)), hM, z_Lg_fr hLg h8 (hf 61 (by omega))⟩ (fun a x y => hf a (by omega)) (by rw [hf 42 (by omega)]) (fun a x y => hf a (by omega)) (fun a x y => hf a (by omega)) ⟨by rw [hf 64 (by omega)], by rw [hf 64 (by omega)]⟩ (fun i hi => by
    have hb := k_at_b p z i
    exact z_Lg_fr (h.2.2.2.2.2.1 i hi).2.2.2.2 (by rw [hf _ (by omega)]) (hf 61 (by omega)))
  rw [k_up_id] at this
  exact this
def m_ac (a k : Nat) : Bool := m_hi a k || m_cs a k || (Nat.ble 27 a && Nat.ble a 31) || a == 61
theorem m_ac_hi {I J : Ii} (h : z_fr m_hi I J) : z_fr m_ac I J := z_fr_m h (fun a k e => by simp [m_ac, e])
theorem m_ac_cs {I J : Ii} (h : z_fr m_cs I J) : z_fr m_ac I J := z_fr_m h (fun a k e => by simp [m_ac, e])
theorem k_Xclose1 (X : Sx) (d : Nat) (I : Ii) (T : Tt) (n m : Nat) (G : Nat → Nat) (p z : Nat) (H : Nat → Nat → Int32) (h : k_S I n m G p z H) (j : Nat) (hj : j < n) : ∃ K, c_X11_close_0 X (d + 12) (nI j) I T = z_r (z_b (H z (12 + 13 * j + 6) = 1)) K T ∧ z_fr m_ac I K ∧ k_S K n m (k_H' z G) ((p + 1) % 12) (k_z z) (k_up (k_z z) (k_H' z H) (va_up (H z) (12 + 13 * j + 6) 0)) := by
  have h27 := k_S_27 h
  have hn := h27.1.2.1
  have hm := h27.1.2.2.2.1
  have n3 := k_n3 h27
  obtain ⟨J, j1, j2, j3⟩ := k_S_rem X (d + 9) I T n m G p z H h
  obtain ⟨e1, e2, e3⟩ := k_H'_eq z G h.2.1
  obtain ⟨-, -, f3⟩ := k_H'_eq z H h.2.1
  have hJ := j3.2.2.2.2.1
  rw [e3, f3] at hJ
  obtain ⟨v, v1, v2⟩ := k_putLid27 X (d + 10) J T (H z) n j hJ.2.2.2.1 hn hj
  have io := k_isOpen27 X (d + 10) I T (H z) n m j h27 hj
  refine ⟨q_w J 27 4 v, ?_, z_fr_w (m_ac_hi j2) 27 4 _ rfl, ?_⟩
  · rw [e_X11_close_0, k_needJar1 X _ I T n j n3 hn hj]
    simp (disch := omega) only [e_X11_close_0_3, k_X11_close_0_3, e_X11_close_0_7, k_X11_close_0_7, e_X11_close_0_13, k_X11_close_0_13, e_X11_close_0_17, k_X11_close_0_17, io, j1, v1, q_bd_l, z_ltT, z_ltF, z_eqT, z_eqF, z_ltlT, z_ltlF, z_lltT, z_lltF, z_eqlT, z_eqlF, z_in, z_k7, z_cl, z_lneg, z_llT, z_llF, z_s1, z_nI_cl, z_nlt0, z_ne_m1, z_b0, z_b1, z_la, z_al, z_lm, z_ml, z_nm, nI_add, pk_mul, ↓reduceIte, not_true_eq_false, not_false_eq_true, true_or, or_true, false_or, or_false, true_and, and_true, and_false, false_and, Classical.not_not, Nat.add_zero, z_01, z_em, z_bit_p, Nat.not_le, Nat.not_lt, reduceCtorEq, if_true, if_false]
  · refine k_S_now j3 e1 e2 _ (fun a ha => z_w_a _ _ _ _ _ (by omega)) (z_w_k _ _ _ _ _ (by decide)) v2 (R_ok_w6 hJ.1 j hj 0 ⟨0, by omega, rfl⟩) (z_Sh_up hJ.2.1 hn hm (.inr (.inr (.inr (.inr (.inl ⟨j, 6, by omega, rfl, by omega⟩))))) _) (z_La_up hJ.2.2.1 (by omega) (by omega) _) ?_
    rw [e3]
    exact z_Lg_up hJ.2.2.2.2 (by omega) (by omega) _
theorem k_Xclose0 (X : Sx) (d : Nat) (I : Ii) (T : Tt) (n : Nat) (v : Int32) (h3 : I 3 0 = nI n) (hv : z_no v n) : c_X11_close_0 X (d + 12) v I T = z_x 2 I T := by
  rw [e_X11_close_0, k_needJar0 X _ v I T n h3 hv, z_x_bd]
theorem k_Xlabel1 (X : Sx) (d : Nat) (I : Ii) (T : Tt) (n m : Nat) (G : Nat → Nat) (p z : Nat) (H : Nat → Nat → Int32) (h : k_S I n m G p z H) (j : Nat) (hj : j < n) (u : Int32) (hu : u = -1 ∨ ∃ k, k < n ∧ u = nI k) : ∃ K, c_X11_label_0 X (d + 12) (nI j) u I T = z_r (H z (12 + 13 * j + 5)) K T ∧ z_fr m_ac I K ∧ k_S K n m (k_H' z G) ((p + 1) % 12) (k_z z) (k_up (k_z z) (k_H' z H) (va_up (H z) (12 + 13 * j + 5) u)) := by
  have h27 := k_S_27 h
  have hn := h27.1.2.1
  have hm := h27.1.2.2.2.1
  have n3 := k_n3 h27
  obtain ⟨J, j1, j2, j3⟩ := k_S_rem X (d + 9) I T n m G p z H h
  obtain ⟨e1, e2, e3⟩ := k_H'_eq z G h.2.1
  obtain ⟨-, -, f3⟩ := k_H'_eq z H h.2.1
  have hJ := j3.2.2.2.2.1
  rw [e3, f3] at hJ
  have v2 := z_Mo_w5 hJ.2.2.2.1 hn j hj u
  have c : I 31 j = H z (12 + 13 * j + 5) := h27.2.2.1.2.2.2.2.2.2.2.1 j hj
  refine ⟨q_w J 31 j u, ?_, z_fr_w (m_ac_hi j2) 31 j _ rfl, ?_⟩
  · rw [e_X11_label_0, k_needJar1 X _ I T n j n3 hn hj]
    rcases hu with hu | ⟨k, hk, hu⟩
    · simp (disch := omega) only [e_X11_label_0_3, k_X11_label_0_3, e_X11_label_0_9, k_X11_label_0_9, e_X11_label_0_20, k_X11_label_0_20, eq_true hu, c, j1, q_bd_l, z_ltT, z_ltF, z_eqT, z_eqF, z_ltlT, z_ltlF, z_lltT, z_lltF, z_eqlT, z_eqlF, z_in, z_k7, z_cl, z_lneg, z_llT, z_llF, z_s1, z_nI_cl, z_nlt0, z_ne_m1, z_b0, z_b1, z_la, z_al, z_lm, z_ml, z_nm, nI_add, pk_mul, ↓reduceIte, not_true_eq_false, not_false_eq_true, true_or, or_true, false_or, or_false, true_and, and_true, and_false, false_and, Classical.not_not, Nat.add_zero, z_01, z_em, z_bit_p, Nat.not_le, Nat.not_lt, reduceCtorEq, if_true, if_false]
    · have hu2 : ¬ u = -1 := by rw [hu, z_ne_m1 _ (by omega)]; exact fun a => a
      have nj : c_X11_needJar_0 X (d + 11) u I T = z_v I T := by rw [hu]; exact k_needJar1 X _ I T n k n3 hn hk
      simp (disch := omega) only [e_X11_label_0_3, k_X11_label_0_3, e_X11_label_0_9, k_X11_label_0_9, e_X11_label_0_20, k_X11_label_0_20, hu2, nj, c, j1, q_bd_l, z_ltT, z_ltF, z_eqT, z_eqF, z_ltlT, z_ltlF, z_lltT, z_lltF, z_eqlT, z_eqlF, z_in, z_k7, z_cl, z_lneg, z_llT, z_llF, z_s1, z_nI_cl, z_nlt0, z_ne_m1, z_b0, z_b1, z_la, z_al, z_lm, z_ml, z_nm, nI_add, pk_mul, ↓reduceIte, not_true_eq_false, not_false_eq_true, true_or, or_true, false_or, or_false, true_and, and_true, and_false, false_and, Classical.not_not, Nat.add_zero, z_01, z_em, z_bit_p, Nat.not_le, Nat.not_lt, reduceCtorEq, if_true, if_false]
  · refine k_S_now j3 e1 e2 _ (fun a ha => z_w_a _ _ _ _ _ (by omega)) (by rw [z_w_a _ _ _ _ _ (by decide)]) v2 (R_ok_w5 hJ.1 j hj u hu) (z_Sh_up hJ.2.1 hn hm (.inr (.inr (.inr (.inr (.inl ⟨j, 5, by omega, rfl, by omega⟩))))) _) (z_La_up hJ.2.2.1 (by omega) (by omega) _) ?_
    rw [e3]
    exact z_Lg_up hJ.2.2.2.2 (by omega) (by omega) _
theorem k_Xlabel0 (X : Sx) (d : Nat) (I : Ii) (T : Tt) (n : Nat) (v u : Int32) (h3 : I 3 0 = nI n) (hn : n ≤ 10) (hv : z_no v n ∨ (∃ j, j < n ∧ v = nI j) ∧ u ≠ -1 ∧ z_no u n) : c_X11_label_0 X (d + 12) v u I T = z_x 2 I T := by
  rw [e_X11_label_0]
  rcases hv with hv | ⟨⟨j, hj, rfl⟩, hu, hu2⟩
  · rw [k_needJar0 X _ v I T n h3 hv, z_x_bd]
  · rw [k_needJar1 X _ I T n j h3 hn hj]
    simp (disch := omega) only [e_X11_label_0_3, k_X11_label_0_3, e_X11_label_0_9, k_X11_label_0_9, e_X11_label_0_20, k_X11_label_0_20, hu, k_needJar0 X _ u I T n h3 hu2, z_x_bd, q_bd_l, z_ltT, z_ltF, z_eqT, z_eqF, z_ltlT, z_ltlF, z_lltT, z_lltF, z_eqlT, z_eqlF, z_in, z_k7, z_cl, z_lneg, z_llT, z_llF, z_s1, z_nI_cl, z_nlt0, z_ne_m1, z_b0, z_b1, z_la, z_al, z_lm, z_ml, z_nm, nI_add, pk_mul, ↓reduceIte, not_true_eq_false, not_false_eq_true, true_or, or_true, false_or, or_false, true_and, and_true, and_false, false_and, Classical.not_not, Nat.add_zero, z_01, z_em, z_bit_p, Nat.not_le, Nat.not_lt, reduceCtorEq, if_true, if_false]
theorem k_needSpoon1 (X : Sx) (d : Nat) (I : Ii) (T : Tt) (r : Nat → Int32) (n m j : Nat) (h : k_H27 I r n m) (hj : j < n) (hs : r (12 + 13 * j + 2) ≠ 0) : c_X11_needSpoon_0 X (d + 1) (nI j) I T = z_v I T := by
  have hn := h.1.2.1
  obtain ⟨x, hx, ex⟩ := (h.1.2.2.2.2.2.2.2.2.2.2.1 j hj).2.2.1
  have c : I 29 j = nI x := (h.2.2.1.2.2.2.2.2.1 j hj).trans ex
  have hx0 : 0 < x := by
    rcases Nat.eq_zero_or_pos x with e | e
    · subst e; exact absurd ex hs
    · exact e
  rw [e_X11_needSpoon_0]
  simp (disch := omega) only [c, q_bd_l, z_ltT, z_ltF, z_eqT, z_eqF, z_ltlT, z_ltlF, z_lltT, z_lltF, z_eqlT, z_eqlF, z_in, z_k7, z_cl, z_lneg, z_llT, z_llF, z_s1, z_nI_cl, z_nlt0, z_ne_m1, z_b0, z_b1, z_la, z_al, z_lm, z_ml, z_nm, nI_add, pk_mul, ↓reduceIte, not_true_eq_false, not_false_eq_true, true_or, or_true, false_or, or_false, true_and, and_true, and_false, false_and, Classical.not_not, Nat.add_zero, z_01, z_em, z_bit_p, Nat.not_le, Nat.not_lt, reduceCtorEq, if_true, if_false]
theorem k_needSpoon0 (X : Sx) (d : Nat) (I : Ii) (T : Tt) (r : Nat → Int32) (n m j : Nat) (h : k_H27 I r n m) (hj : j < n) (hs : r (12 + 13 * j + 2) = 0) : c_X11_needSpoon_0 X (d + 1) (nI j) I T = z_x 4 I T := by
  have hn := h.1.2.1
  have c : I 29 j = 0 := (h.2.2.1.2.2.2.2.2.1 j hj).trans hs
  rw [e_X11_needSpoon_0]
  simp (disch := omega) only [c, z_x_e, q_bd_l, z_ltT, z_ltF, z_eqT, z_eqF, z_ltlT, z_ltlF, z_lltT, z_lltF, z_eqlT, z_eqlF, z_in, z_k7, z_cl, z_lneg, z_llT, z_llF, z_s1, z_nI_cl, z_nlt0, z_ne_m1, z_b0, z_b1, z_la, z_al, z_lm, z_ml, z_nm, nI_add, pk_mul, ↓reduceIte, not_true_eq_false, not_false_eq_true, true_or, or_true, false_or, or_false, true_and, and_true, and_false, false_and, Classical.not_not, Nat.add_zero, z_01, z_em, z_bit_p, Nat.not_le, Nat.not_lt, reduceCtorEq, if_true, if_false]
