/-! ===== THE CLASS: asking and mixing ===== -/
theorem R_log_lo (j o t a : Int32) (r : Nat → Int32) (i : Nat) (h : i < 184 ∨ 484 ≤ i) (h2 : i ≠ 10) : R_log j o t a r i = r i := by
  unfold R_log
  rw [if_neg h2, if_neg (by omega), if_neg (by omega), if_neg (by omega), if_neg (by omega), if_neg (by omega), if_neg (by omega)]
theorem R_ok_cg {r r' : Nat → Int32} {n m : Nat} (h : R_ok r n m) (hr : ∀ i, i < 184 → i ≠ 10 → r' i = r i) (h10 : z_le (r' 10) 60) : R_ok r' n m := by
  obtain ⟨a1, a2, a3, a4, a5, a6, a7, a8, a9, b1, b2, b3⟩ := h
  refine ⟨?_, a2, ?_, a4, ?_, ?_, ?_, ?_, h10, ?_, ?_, ?_⟩
  · rw [hr 3 (by omega) (by omega)]; exact a1
  · rw [hr 4 (by omega) (by omega)]; exact a3
  · rw [hr 0 (by omega) (by omega)]; exact a5
  · rw [hr 5 (by omega) (by omega)]; exact a6
  · rw [hr 6 (by omega) (by omega)]; exact a7
  · rw [hr 7 (by omega) (by omega)]; exact a8
  · intro p hp; rw [hr _ (by omega) (by omega)]; exact b1 p hp
  · intro j hj
    obtain ⟨c1, c2, c3, c4, c5, c6, c7, c8⟩ := b2 j hj
    refine ⟨?_, ?_, ?_, ?_, ?_, ?_, ?_, ?_⟩
    · rw [hr _ (by omega) (by omega)]; exact c1
    · rw [hr _ (by omega) (by omega)]; exact c2
    · rw [hr _ (by omega) (by omega)]; exact c3
    · rw [hr _ (by omega) (by omega)]; exact c4
    · rw [hr _ (by omega) (by omega)]; exact c5
    · rw [hr _ (by omega) (by omega)]; exact c6
    · rw [hr _ (by omega) (by omega)]; exact c7
    · intro t ht; rw [hr _ (by omega) (by omega)]; exact c8 t ht
  · intro k hk
    rw [hr _ (by omega) (by omega), hr _ (by omega) (by omega)]
    exact b3 k hk
theorem z_Sh_cg {I : Ii} {sh : Nat} {r r' : Nat → Int32} {n m : Nat} (h : z_Sh I sh r n m) (hn : n ≤ 10) (hm : m ≤ 10) (hr : ∀ i, i < 184 → i ≠ 10 → r' i = r i) : z_Sh I sh r' n m := by
  obtain ⟨b1, b2, b3, b4, b5, b6, c1, c2, c3, c4, c5, c6, c7⟩ := h
  refine ⟨?_, ?_, ?_, ?_, ?_, ?_, ?_, ?_, ?_, ?_, ?_, ?_, ?_⟩
  · rw [hr 3 (by omega) (by omega)]; exact b1
  · rw [hr 4 (by omega) (by omega)]; exact b2
  · rw [hr 5 (by omega) (by omega)]; exact b3
  · rw [hr 6 (by omega) (by omega)]; exact b4
  · rw [hr 7 (by omega) (by omega)]; exact b5
  · rw [hr 0 (by omega) (by omega)]; exact b6
  · intro j hj; rw [hr _ (by omega) (by omega)]; exact c1 j hj
  · intro j hj; rw [hr _ (by omega) (by omega)]; exact c2 j hj
  · intro j t hj ht; rw [hr _ (by omega) (by omega)]; exact c3 j t hj ht
  · intro p hp; rw [hr _ (by omega) (by omega)]; exact c4 p hp
  · intro k hk; rw [hr _ (by omega) (by omega)]; exact c5 k hk
  · intro k hk; rw [hr _ (by omega) (by omega)]; exact c6 k hk
  · intro k hk; rw [hr _ (by omega) (by omega)]; exact c7 k hk
theorem z_La_cg {I : Ii} {la : Nat} {r r' : Nat → Int32} (h : z_La I la r) (h1 : r' 1 = r 1) (h2 : r' 2 = r 2) (h3 : ∀ k, r' (484 + k) = r (484 + k)) : z_La I la r' := by
  have et : r_text r' = r_text r := by
    funext k
    unfold r_text
    rw [h3]
  have el : R_ls r' = R_ls r := by unfold R_ls; rw [et, h2]
  have eo : R_lo r' = R_lo r := by unfold R_lo; simp only [et, h1, h2, h3]
  unfold z_La at h ⊢
  rw [el, eo, h1]
  exact h
theorem z_Mo_log {I J : Ii} {r : Nat → Int32} {n : Nat} (h : z_Mo I 27 r n) (hn : n ≤ 10) (j o t a : Int32) (hf : z_fr m_en I J) (h9 : J 27 9 = R_log j o t a r 10) : z_Mo J 27 (R_log j o t a r) n := by
  obtain ⟨b1, b2, b3, b4, b5, b6, b7, b8, p, b9, b10, b11⟩ := h
  have hr := fun i h1 h2 => R_log_lo j o t a r i h1 h2
  refine ⟨?_, ?_, ?_, h9, ?_, ?_, ?_, ?_, p, b9, (hf 27 4 rfl).trans b10, ?_⟩
  · rw [hr 8 (by omega) (by omega)]; exact (hf 27 5 rfl).trans b1
  · rw [hr 9 (by omega) (by omega)]; exact (hf 27 7 rfl).trans b2
  · rw [hr 11 (by omega) (by omega)]; exact (hf 27 6 rfl).trans b3
  · intro i hi; rw [hr _ (by omega) (by omega)]; exact (hf 28 i rfl).trans (b5 i hi)
  · intro i hi; rw [hr _ (by omega) (by omega)]; exact (hf 29 i rfl).trans (b6 i hi)
  · intro i hi; rw [hr _ (by omega) (by omega)]; exact (hf 30 i rfl).trans (b7 i hi)
  · intro i hi; rw [hr _ (by omega) (by omega)]; exact (hf 31 i rfl).trans (b8 i hi)
  · intro i hi; rw [hr _ (by omega) (by omega)]; exact b11 i hi
theorem k_M_take {J K : Ii} {r : Nat → Int32} {n m g j : Nat} (h : k_M J 27 r n m g) (hj : j < n) (hs : r (12 + 13 * j + 2) ≠ 0) (hf : z_fr (m_mo 27) J K) (h8 : K 27 8 = J 27 8) (hfo : ∀ a, a < 27 ∨ 31 < a → a ≠ 42 → a ≠ 47 → K a = J a) (h42 : K 42 0 = J 42 0) (hM : z_Mo K 27 (R_take j r) n) : k_M K 27 (R_take j r) n m g := by
  have hn := h.1.2.1
  have hm := h.1.2.2.2.1
  obtain ⟨x, hx, ex⟩ := (h.1.2.2.2.2.2.2.2.2.2.2.1 j hj).2.2.1
  have hx0 : 1 ≤ x := by
    rcases Nat.eq_zero_or_pos x with e | e
    · subst e; exact absurd ex hs
    · exact e
  have hv : z_le (r (12 + 13 * j + 2) - 1) 20 := ⟨x - 1, by omega, by rw [ex]; exact pk_sub (a := x) (b := 1) hx0⟩
  have mc : ∀ w, (w = 1 ∨ w = 2 ∨ w = 3 ∨ w = 5 ∨ w = 6) → r_mc (12 + 13 * j + w) := fun w hw => .inr (.inr (.inr (.inr (.inl ⟨j, w, by omega, rfl, hw⟩))))
  refine ⟨R_ok_w6 (R_ok_w2 h.1 j hj _ hv) j hj 1 ⟨1, by omega, rfl⟩, ?_, ?_, hM, ?_⟩
  · exact z_Sh_fr (z_Sh_up (z_Sh_up h.2.1 hn hm (mc 2 (by omega)) _) hn hm (mc 6 (by omega)) _) (fun a x y => hfo a (by omega) (by omega) (by omega))
  · exact z_La_fr (z_La_up (z_La_up h.2.2.1 (by omega) (by omega) _) (by omega) (by omega) _) h42 (fun a x y => hfo a (by omega) (by omega) (by omega))
  · exact z_Lg_fr (z_Lg_up (z_Lg_up h.2.2.2.2 (by omega) (by omega) _) (by omega) (by omega) _) h8 (hfo 61 (by omega) (by omega) (by omega))
