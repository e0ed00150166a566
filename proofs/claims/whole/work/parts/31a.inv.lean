/-! ===== WHAT HOLDS BETWEEN TWO CALLS ===== -/
def J_c (I : Ii) (n m : Nat) (G : Nat → Nat) (p z : Nat) (H : Nat → Nat → Int32) : Prop := k_S I n m G p z H ∧ I 140 = H z ∧ I 139 6 = nI z ∧ (∀ i, i < z → ∀ k, k < 484 → I 143 (484 * i + k) = H i k) ∧ (∀ i, i < z → ∀ k, 484 ≤ k → H i k = H z k) ∧ ∀ k, 884 ≤ k → I 140 k = 0
def J_t (I : Ii) (B : Nat → Nat) (N : Nat) : Prop := z_Ta I B N ∧ z_Tr I B N
def J_i (I : Ii) : Prop := ((I 0 18 = 0 ∧ I 139 3 = 0) ∨ (I 0 18 = 1 ∧ I 139 3 = 1 ∧ ∃ n m g, k_Im I (I 141) n m g)) ∧ ∀ k, 884 ≤ k → I 141 k = 0
def J_o (I : Ii) : Prop := I 0 19 = I 139 13 ∧ z_01b (I 139 17)
def INV (I : Ii) : Prop := (∃ n m G p z H, J_c I n m G p z H) ∧ (∃ B N, J_t I B N) ∧ J_i I ∧ J_o I
theorem z_Ta_e {I J : Ii} {B : Nat → Nat} {N : Nat} (h : z_Ta I B N) (h1 : J 1 1 = I 1 1) (h2 : J 2 = I 2) : z_Ta J B N := ⟨h.1, h1.trans h.2.1, fun k hk => by rw [h2]; exact h.2.2 k hk⟩
theorem z_Tr_e {I J : Ii} {B : Nat → Nat} {N : Nat} (h : z_Tr I B N) (h1 : J 139 8 = I 139 8) (h2 : J 144 = I 144) : z_Tr J B N := ⟨h1.trans h.1, fun k hk => by rw [h2]; exact h.2 k hk⟩
theorem k_Im_e {I J : Ii} {r : Nat → Int32} {n m g : Nat} (h : k_Im I r n m g) (h1 : ∀ a, 19 ≤ a → a ≤ 26 → J a = I a) (h2 : ∀ a, 37 ≤ a → a ≤ 41 → J a = I a) (h3 : ∀ a, 54 ≤ a → a ≤ 58 → J a = I a) (h4 : J 63 = I 63) : k_Im J r n m g := ⟨h.1, z_Sh_fr h.2.1 (fun a x y => h1 a x y), z_La_fr h.2.2.1 (by rw [h3 54 (by omega) (by omega)]) (fun a x y => h3 a (by omega) (by omega)), z_Mo_fr h.2.2.2.1 (fun a x y => h2 a x y), z_Lg_fr h.2.2.2.2 (by rw [h2 37 (by omega) (by omega)]) h4⟩
theorem J_i_e {I J : Ii} (h : J_i I) (h0 : J 0 18 = I 0 18) (h9 : J 139 3 = I 139 3) (h41 : J 141 = I 141) (h1 : ∀ a, 19 ≤ a → a ≤ 26 → J a = I a) (h2 : ∀ a, 37 ≤ a → a ≤ 41 → J a = I a) (h3 : ∀ a, 54 ≤ a → a ≤ 58 → J a = I a) (h4 : J 63 = I 63) : J_i J := by
  obtain ⟨hi, hz⟩ := h
  refine ⟨?_, fun k hk => by rw [h41]; exact hz k hk⟩
  rcases hi with ⟨a, b⟩ | ⟨a, b, n, m, g, c⟩
  · exact .inl ⟨h0.trans a, h9.trans b⟩
  · exact .inr ⟨h0.trans a, h9.trans b, n, m, g, by rw [h41]; exact k_Im_e c h1 h2 h3 h4⟩
/-- what the reference's half may change without a trace in the class's -/
def m_ref (a _k : Nat) : Bool := Nat.ble 139 a
theorem k_S_ref {I K : Ii} {n m : Nat} {G : Nat → Nat} {p z : Nat} {H : Nat → Nat → Int32} (h : k_S I n m G p z H) (hf : ∀ a, a < 139 → K a = I a) : k_S K n m G p z H := k_S_fr h (fun a x y => hf a (by omega)) (by rw [hf 42 (by omega)]) (fun a x y => hf a (by omega)) (fun a x y => hf a (by omega)) ⟨by rw [hf 64 (by omega)], by rw [hf 64 (by omega)]⟩ (fun a x y => hf a (by omega)) (hf 61 (by omega))
theorem z_q_lo {J K : Ii} (h : z_fr m_q J K) : ∀ a, a < 139 → K a = J a := fun a ha => funext (fun k => h a k (by simp [m_q, m_r]; omega))
theorem m_cs_f {a k : Nat} (h : ¬ (a = 47 ∨ a = 42 ∨ (32 ≤ a ∧ a ≤ 36) ∨ (129 ≤ a ∧ a ≤ 131) ∨ a = 133 ∨ a = 134 ∨ (136 ≤ a ∧ a ≤ 138) ∨ a = 135 ∨ a = 1 ∨ (11 ≤ a ∧ a ≤ 18) ∨ (48 ≤ a ∧ a ≤ 53))) : m_cs a k = false := by
  cases e : m_cs a k
  · rfl
  · exfalso
    simp [m_cs, m_la] at e
    omega
theorem z_cs_hi {I J : Ii} (h : z_fr m_cs I J) : ∀ a, 139 ≤ a → J a = I a := fun a ha => funext (fun k => h a k (m_cs_f (by omega)))
theorem z_cs_r {I J : Ii} (h : z_fr m_cs I J) (a : Nat) (ha : a = 0 ∨ a = 2 ∨ (19 ≤ a ∧ a ≤ 26) ∨ (37 ≤ a ∧ a ≤ 41) ∨ (54 ≤ a ∧ a ≤ 58) ∨ a = 63) : J a = I a := funext (fun k => h a k (m_cs_f (by omega)))
/-- a question: the class's, then the reference's -/
theorem INV_q {I J K : Ii} (h : INV I) (h1 : z_fr m_cs I J) (h2 : z_fr m_q J K) (h3 : z_01b (K 139 17)) : INV K := by
  obtain ⟨⟨n, m, G, p, z, H, c1, c2, c3, c4, c5, c6⟩, ⟨B, N, t1, t2⟩, hi, o1, o2⟩ := h
  have lo := z_q_lo h2
  have hi' := z_cs_hi h1
  have e139 : ∀ k, m_q 139 k = false → K 139 k = I 139 k := fun k hk => by rw [h2 139 k hk, hi' 139 (by omega)]
  have e140 : K 140 = I 140 := (z_q140 h2).trans (hi' 140 (by omega))
  have e143 : K 143 = I 143 := (funext (fun k => h2 143 k (by simp [m_q, m_r]))).trans (hi' 143 (by omega))
  have e144 : K 144 = I 144 := (funext (fun k => h2 144 k (by simp [m_q, m_r]))).trans (hi' 144 (by omega))
  have e141 : K 141 = I 141 := (funext (fun k => h2 141 k (by simp [m_q, m_r]))).trans (hi' 141 (by omega))
  have er : ∀ a, (a = 0 ∨ a = 2 ∨ (19 ≤ a ∧ a ≤ 26) ∨ (37 ≤ a ∧ a ≤ 41) ∨ (54 ≤ a ∧ a ≤ 58) ∨ a = 63) → K a = I a := fun a ha => (lo a (by omega)).trans (z_cs_r h1 a ha)
  refine ⟨⟨n, m, G, p, z, H, k_S_ref (k_S_cs c1 h1) lo, e140.trans c2, by rw [e139 6 rfl]; exact c3, fun i hi k hk => by rw [e143]; exact c4 i hi k hk, c5, fun k hk => by rw [e140]; exact c6 k hk⟩, ⟨B, N, z_Ta_e t1 (by rw [lo 1 (by omega), h1 1 1 rfl]) (er 2 (by omega)), z_Tr_e t2 (e139 8 rfl) e144⟩, J_i_e hi (by rw [er 0 (by omega)]) (e139 3 rfl) e141 (fun a x y => er a (by omega)) (fun a x y => er a (by omega)) (fun a x y => er a (by omega)) (er 63 (by omega)), by rw [er 0 (by omega), e139 13 rfl]; exact o1, h3⟩
/-- refused by both -/
theorem INV_0 {I : Ii} (h : INV I) (v : Int32) : INV (q_w I 139 0 v) := INV_q h (z_fr_r _ _) (z_q0 I v) (by rw [z_w_k _ _ _ _ _ (by decide)]; exact h.2.2.2.2)
/-- the class's half for a question -/
theorem INV_27 {I : Ii} (h : INV I) : ∃ n m, k_H27 I (I 140) n m := by
  obtain ⟨⟨n, m, G, p, z, H, c1, c2, -⟩, -⟩ := h
  exact ⟨n, m, by rw [c2]; exact k_S_27 c1⟩
theorem H27_g {I : Ii} {r : Nat → Int32} {n m : Nat} (h : k_H27 I r n m) : R_g n r := ⟨h.1.1, h.1.2.1, h.2.2.2.1⟩
theorem z_cs140 {I J : Ii} (h : z_fr m_cs I J) : J 140 = I 140 := z_cs_hi h 140 (by omega)
