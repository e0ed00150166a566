/-! ===== THE CLASS: shelves, laws, books copied ===== -/
def k_cS (I : Ii) (s t : Nat) : Ii := q_y (q_y (q_y (q_y (q_y (q_y (q_y (q_w (q_w (q_w (q_w (q_w (q_w I t 0 (I s 0)) t 5 (I s 5)) t 9 (I s 9)) t 10 (I s 10)) t 11 (I s 11)) t 12 (I s 12)) (s + 1) 0 (t + 1) 0 10) (s + 2) 0 (t + 2) 0 10) (s + 3) 0 (t + 3) 0 60) (s + 4) 0 (t + 4) 0 12) (s + 5) 0 (t + 5) 0 10) (s + 6) 0 (t + 6) 0 10) (s + 7) 0 (t + 7) 0 10
theorem k_cS_o (I : Ii) (s t a : Nat) (h : a < t ∨ t + 7 < a) : k_cS I s t a = I a := by
  unfold k_cS
  rw [z_y_a _ _ _ _ _ _ _ (by omega), z_y_a _ _ _ _ _ _ _ (by omega), z_y_a _ _ _ _ _ _ _ (by omega), z_y_a _ _ _ _ _ _ _ (by omega), z_y_a _ _ _ _ _ _ _ (by omega), z_y_a _ _ _ _ _ _ _ (by omega), z_y_a _ _ _ _ _ _ _ (by omega), z_w_a _ _ _ _ _ (by omega), z_w_a _ _ _ _ _ (by omega), z_w_a _ _ _ _ _ (by omega), z_w_a _ _ _ _ _ (by omega), z_w_a _ _ _ _ _ (by omega), z_w_a _ _ _ _ _ (by omega)]
theorem k_cS_f (I : Ii) (s t : Nat) : k_cS I s t t 0 = I s 0 ∧ k_cS I s t t 5 = I s 5 ∧ k_cS I s t t 9 = I s 9 ∧ k_cS I s t t 10 = I s 10 ∧ k_cS I s t t 11 = I s 11 ∧ k_cS I s t t 12 = I s 12 := by
  unfold k_cS
  rw [z_y_a _ _ _ _ _ _ _ (by omega), z_y_a _ _ _ _ _ _ _ (by omega), z_y_a _ _ _ _ _ _ _ (by omega), z_y_a _ _ _ _ _ _ _ (by omega), z_y_a _ _ _ _ _ _ _ (by omega), z_y_a _ _ _ _ _ _ _ (by omega), z_y_a _ _ _ _ _ _ _ (by omega)]
  refine ⟨?_, ?_, ?_, ?_, ?_, ?_⟩ <;> simp [z_w]
theorem k_cS_1 (I : Ii) (s t k : Nat) (h : s + 7 < t ∨ t + 7 < s) (hk : k < 10) : k_cS I s t (t + 1) k = I (s + 1) k := by
  unfold k_cS
  rw [z_y_a _ _ _ _ _ _ _ (by omega), z_y_a _ _ _ _ _ _ _ (by omega), z_y_a _ _ _ _ _ _ _ (by omega), z_y_a _ _ _ _ _ _ _ (by omega), z_y_a _ _ _ _ _ _ _ (by omega), z_y_a _ _ _ _ _ _ _ (by omega), z_y_in _ _ _ _ _ hk, z_w_a _ _ _ _ _ (by omega), z_w_a _ _ _ _ _ (by omega), z_w_a _ _ _ _ _ (by omega), z_w_a _ _ _ _ _ (by omega), z_w_a _ _ _ _ _ (by omega), z_w_a _ _ _ _ _ (by omega)]
theorem k_cS_2 (I : Ii) (s t k : Nat) (h : s + 7 < t ∨ t + 7 < s) (hk : k < 10) : k_cS I s t (t + 2) k = I (s + 2) k := by
  unfold k_cS
  rw [z_y_a _ _ _ _ _ _ _ (by omega), z_y_a _ _ _ _ _ _ _ (by omega), z_y_a _ _ _ _ _ _ _ (by omega), z_y_a _ _ _ _ _ _ _ (by omega), z_y_a _ _ _ _ _ _ _ (by omega), z_y_in _ _ _ _ _ hk, z_y_a _ _ _ _ _ _ _ (by omega), z_w_a _ _ _ _ _ (by omega), z_w_a _ _ _ _ _ (by omega), z_w_a _ _ _ _ _ (by omega), z_w_a _ _ _ _ _ (by omega), z_w_a _ _ _ _ _ (by omega), z_w_a _ _ _ _ _ (by omega)]
theorem k_cS_3 (I : Ii) (s t k : Nat) (h : s + 7 < t ∨ t + 7 < s) (hk : k < 60) : k_cS I s t (t + 3) k = I (s + 3) k := by
  unfold k_cS
  rw [z_y_a _ _ _ _ _ _ _ (by omega), z_y_a _ _ _ _ _ _ _ (by omega), z_y_a _ _ _ _ _ _ _ (by omega), z_y_a _ _ _ _ _ _ _ (by omega), z_y_in _ _ _ _ _ hk, z_y_a _ _ _ _ _ _ _ (by omega), z_y_a _ _ _ _ _ _ _ (by omega), z_w_a _ _ _ _ _ (by omega), z_w_a _ _ _ _ _ (by omega), z_w_a _ _ _ _ _ (by omega), z_w_a _ _ _ _ _ (by omega), z_w_a _ _ _ _ _ (by omega), z_w_a _ _ _ _ _ (by omega)]
theorem k_cS_4 (I : Ii) (s t k : Nat) (h : s + 7 < t ∨ t + 7 < s) (hk : k < 12) : k_cS I s t (t + 4) k = I (s + 4) k := by
  unfold k_cS
  rw [z_y_a _ _ _ _ _ _ _ (by omega), z_y_a _ _ _ _ _ _ _ (by omega), z_y_a _ _ _ _ _ _ _ (by omega), z_y_in _ _ _ _ _ hk, z_y_a _ _ _ _ _ _ _ (by omega), z_y_a _ _ _ _ _ _ _ (by omega), z_y_a _ _ _ _ _ _ _ (by omega), z_w_a _ _ _ _ _ (by omega), z_w_a _ _ _ _ _ (by omega), z_w_a _ _ _ _ _ (by omega), z_w_a _ _ _ _ _ (by omega), z_w_a _ _ _ _ _ (by omega), z_w_a _ _ _ _ _ (by omega)]
theorem k_cS_5 (I : Ii) (s t k : Nat) (h : s + 7 < t ∨ t + 7 < s) (hk : k < 10) : k_cS I s t (t + 5) k = I (s + 5) k := by
  unfold k_cS
  rw [z_y_a _ _ _ _ _ _ _ (by omega), z_y_a _ _ _ _ _ _ _ (by omega), z_y_in _ _ _ _ _ hk, z_y_a _ _ _ _ _ _ _ (by omega), z_y_a _ _ _ _ _ _ _ (by omega), z_y_a _ _ _ _ _ _ _ (by omega), z_y_a _ _ _ _ _ _ _ (by omega), z_w_a _ _ _ _ _ (by omega), z_w_a _ _ _ _ _ (by omega), z_w_a _ _ _ _ _ (by omega), z_w_a _ _ _ _ _ (by omega), z_w_a _ _ _ _ _ (by omega), z_w_a _ _ _ _ _ (by omega)]
theorem k_cS_6 (I : Ii) (s t k : Nat) (h : s + 7 < t ∨ t + 7 < s) (hk : k < 10) : k_cS I s t (t + 6) k = I (s + 6) k := by
  unfold k_cS
  rw [z_y_a _ _ _ _ _ _ _ (by omega), z_y_in _ _ _ _ _ hk, z_y_a _ _ _ _ _ _ _ (by omega), z_y_a _ _ _ _ _ _ _ (by omega), z_y_a _ _ _ _ _ _ _ (by omega), z_y_a _ _ _ _ _ _ _ (by omega), z_y_a _ _ _ _ _ _ _ (by omega), z_w_a _ _ _ _ _ (by omega), z_w_a _ _ _ _ _ (by omega), z_w_a _ _ _ _ _ (by omega), z_w_a _ _ _ _ _ (by omega), z_w_a _ _ _ _ _ (by omega), z_w_a _ _ _ _ _ (by omega)]
theorem k_cS_7 (I : Ii) (s t k : Nat) (h : s + 7 < t ∨ t + 7 < s) (hk : k < 10) : k_cS I s t (t + 7) k = I (s + 7) k := by
  unfold k_cS
  rw [z_y_in _ _ _ _ _ hk, z_y_a _ _ _ _ _ _ _ (by omega), z_y_a _ _ _ _ _ _ _ (by omega), z_y_a _ _ _ _ _ _ _ (by omega), z_y_a _ _ _ _ _ _ _ (by omega), z_y_a _ _ _ _ _ _ _ (by omega), z_y_a _ _ _ _ _ _ _ (by omega), z_w_a _ _ _ _ _ (by omega), z_w_a _ _ _ _ _ (by omega), z_w_a _ _ _ _ _ (by omega), z_w_a _ _ _ _ _ (by omega), z_w_a _ _ _ _ _ (by omega), z_w_a _ _ _ _ _ (by omega)]
theorem k_cS_Sh (I : Ii) (s t : Nat) (r : Nat → Int32) (n m : Nat) (h : s + 7 < t ∨ t + 7 < s) (hn : n ≤ 10) (hm : m ≤ 10) (hS : z_Sh I s r n m) : z_Sh (k_cS I s t) t r n m := by
  obtain ⟨b1, b2, b3, b4, b5, b6, c1, c2, c3, c4, c5, c6, c7⟩ := hS
  obtain ⟨f0, f5, f9, f10, f11, f12⟩ := k_cS_f I s t
  exact ⟨f0.trans b1, f5.trans b2, f9.trans b3, f10.trans b4, f11.trans b5, f12.trans b6, fun j hj => (k_cS_1 I s t j h (by omega)).trans (c1 j hj), fun j hj => (k_cS_2 I s t j h (by omega)).trans (c2 j hj), fun j u hj hu => (k_cS_3 I s t (j * 6 + u) h (by omega)).trans (c3 j u hj hu), fun p hp => (k_cS_4 I s t p h hp).trans (c4 p hp), fun k hk => (k_cS_5 I s t k h (by omega)).trans (c5 k hk), fun k hk => (k_cS_6 I s t k h (by omega)).trans (c6 k hk), fun k hk => (k_cS_7 I s t k h (by omega)).trans (c7 k hk)⟩
theorem k_becS_11_3 (X : Sx) (d : Nat) (I : Ii) (T : Tt) : c_X9_become_11_3 X (d + 1) I T = z_v (k_cS I 3 11) T := e_X9_become_11_3 X d I T
theorem k_becS_19_3 (X : Sx) (d : Nat) (I : Ii) (T : Tt) : c_X9_become_19_3 X (d + 1) I T = z_v (k_cS I 3 19) T := e_X9_become_19_3 X d I T
theorem k_becS_3_11 (X : Sx) (d : Nat) (I : Ii) (T : Tt) : c_X9_become_3_11 X (d + 1) I T = z_v (k_cS I 11 3) T := e_X9_become_3_11 X d I T
theorem k_becS_3_19 (X : Sx) (d : Nat) (I : Ii) (T : Tt) : c_X9_become_3_19 X (d + 1) I T = z_v (k_cS I 19 3) T := e_X9_become_3_19 X d I T
def k_cL (I : Ii) (s t : Nat) : Ii := q_y (q_y (q_y (q_y (q_w (q_w I t 0 (I s 0)) t 5 (I s 5)) (s + 1) 0 (t + 1) 0 12) (s + 2) 0 (t + 2) 0 12) (s + 3) 0 (t + 3) 0 12) (s + 4) 0 (t + 4) 0 400
theorem k_cL_o (I : Ii) (s t a : Nat) (h : a < t ∨ t + 4 < a) : k_cL I s t a = I a := by
  unfold k_cL
  rw [z_y_a _ _ _ _ _ _ _ (by omega), z_y_a _ _ _ _ _ _ _ (by omega), z_y_a _ _ _ _ _ _ _ (by omega), z_y_a _ _ _ _ _ _ _ (by omega), z_w_a _ _ _ _ _ (by omega), z_w_a _ _ _ _ _ (by omega)]
theorem k_cL_f (I : Ii) (s t : Nat) : k_cL I s t t 0 = I s 0 ∧ k_cL I s t t 5 = I s 5 := by
  unfold k_cL
  rw [z_y_a _ _ _ _ _ _ _ (by omega), z_y_a _ _ _ _ _ _ _ (by omega), z_y_a _ _ _ _ _ _ _ (by omega), z_y_a _ _ _ _ _ _ _ (by omega)]
  refine ⟨?_, ?_⟩ <;> simp [z_w]
theorem k_cL_1 (I : Ii) (s t k : Nat) (h : s + 4 < t ∨ t + 4 < s) (hk : k < 12) : k_cL I s t (t + 1) k = I (s + 1) k := by
  unfold k_cL
  rw [z_y_a _ _ _ _ _ _ _ (by omega), z_y_a _ _ _ _ _ _ _ (by omega), z_y_a _ _ _ _ _ _ _ (by omega), z_y_in _ _ _ _ _ hk, z_w_a _ _ _ _ _ (by omega), z_w_a _ _ _ _ _ (by omega)]
theorem k_cL_2 (I : Ii) (s t k : Nat) (h : s + 4 < t ∨ t + 4 < s) (hk : k < 12) : k_cL I s t (t + 2) k = I (s + 2) k := by
  unfold k_cL
  rw [z_y_a _ _ _ _ _ _ _ (by omega), z_y_a _ _ _ _ _ _ _ (by omega), z_y_in _ _ _ _ _ hk, z_y_a _ _ _ _ _ _ _ (by omega), z_w_a _ _ _ _ _ (by omega), z_w_a _ _ _ _ _ (by omega)]
theorem k_cL_3 (I : Ii) (s t k : Nat) (h : s + 4 < t ∨ t + 4 < s) (hk : k < 12) : k_cL I s t (t + 3) k = I (s + 3) k := by
  unfold k_cL
  rw [z_y_a _ _ _ _ _ _ _ (by omega), z_y_in _ _ _ _ _ hk, z_y_a _ _ _ _ _ _ _ (by omega), z_y_a _ _ _ _ _ _ _ (by omega), z_w_a _ _ _ _ _ (by omega), z_w_a _ _ _ _ _ (by omega)]
theorem k_cL_4 (I : Ii) (s t k : Nat) (h : s + 4 < t ∨ t + 4 < s) (hk : k < 400) : k_cL I s t (t + 4) k = I (s + 4) k := by
  unfold k_cL
  rw [z_y_in _ _ _ _ _ hk, z_y_a _ _ _ _ _ _ _ (by omega), z_y_a _ _ _ _ _ _ _ (by omega), z_y_a _ _ _ _ _ _ _ (by omega), z_w_a _ _ _ _ _ (by omega), z_w_a _ _ _ _ _ (by omega)]
theorem k_cL_La (I : Ii) (s t : Nat) (r : Nat → Int32) (h : s + 4 < t ∨ t + 4 < s) (hL : z_La I s r) : z_La (k_cL I s t) t r := by
  obtain ⟨h1, h2, h3⟩ := hL
  refine ⟨h1, (k_cL_f I s t).1.trans h2, fun hne => ?_⟩
  obtain ⟨g1, g2⟩ := h3 hne
  have h12 := (R_ls_w r).2
  refine ⟨g1, fun i hi => ?_⟩
  obtain ⟨a1, a2, a3, a4⟩ := g2 i hi
  refine ⟨(k_cL_1 I s t i h (by omega)).trans a1, (k_cL_2 I s t i h (by omega)).trans a2, (k_cL_3 I s t i h (by omega)).trans a3, fun u hu => (k_cL_4 I s t _ h ?_).trans (a4 u hu)⟩
  have e : r_E (R_ls r) (i + 1) = r_E (R_ls r) i + (r_at (R_ls r) i).2.2.1.length := rfl
  have := r_E_mono (R_ls r) (by omega : i + 1 ≤ (R_ls r).length)
  omega
theorem k_becL_42_48 (X : Sx) (d : Nat) (I : Ii) (T : Tt) : c_X4_become_42_48 X (d + 1) I T = z_v (k_cL I 48 42) T := e_X4_become_42_48 X d I T
theorem k_becL_42_54 (X : Sx) (d : Nat) (I : Ii) (T : Tt) : c_X4_become_42_54 X (d + 1) I T = z_v (k_cL I 54 42) T := e_X4_become_42_54 X d I T
theorem k_becL_54_42 (X : Sx) (d : Nat) (I : Ii) (T : Tt) : c_X4_become_54_42 X (d + 1) I T = z_v (k_cL I 42 54) T := e_X4_become_54_42 X d I T
theorem k_cB_Lg (I : Ii) (mo s t : Nat) (r : Nat → Int32) (g : Nat) (hm : mo ≠ t) (hL : z_Lg I mo s r g) : z_Lg (q_y I s 0 t 0 360) mo t r g := by
  refine ⟨by rw [z_y_a _ _ _ _ _ _ _ hm]; exact hL.1, fun i c h1 h2 h3 => ?_⟩
  rw [z_y_in _ _ _ _ _ (by omega)]
  exact hL.2 i c h1 h2 h3
