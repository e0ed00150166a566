/-! ===== THE CLASS: its state, with the moments that it keeps ===== -/
/-- a moment at mo stands for row r -/
def k_M (I : Ii) (mo : Nat) (r : Nat → Int32) (n m g : Nat) : Prop := R_ok r n m ∧ z_Sh I 3 r n m ∧ z_La I 42 r ∧ z_Mo I mo r n ∧ z_Lg I mo 61 r g
def k_at (p z i : Nat) : Nat := 66 + 5 * ((p + 12 - z + i) % 12)
theorem k_at_b (p z i : Nat) : 66 ≤ k_at p z i ∧ k_at p z i + 4 ≤ 125 := by unfold k_at; omega
/-- H i, i < z: the rows of the acts that may be undone, the oldest first; H z: now; G: how many rows the log's book had -/
def k_S (I : Ii) (n m : Nat) (G : Nat → Nat) (p z : Nat) (H : Nat → Nat → Int32) : Prop := p < 12 ∧ z ≤ 12 ∧ I 64 1 = nI p ∧ I 64 2 = nI z ∧ k_M I 27 (H z) n m (G z) ∧ (∀ i, i < z → k_M I (k_at p z i) (H i) n m (G i)) ∧ ∀ i j, i ≤ j → j ≤ z → G i ≤ G j ∧ G j ≤ G i + (j - i)
theorem k_S_27 {I : Ii} {n m : Nat} {G : Nat → Nat} {p z : Nat} {H : Nat → Nat → Int32} (h : k_S I n m G p z H) : k_H27 I (H z) n m := ⟨h.2.2.2.2.1.1, h.2.2.2.2.1.2.1, h.2.2.2.2.1.2.2.2.1, h.2.2.2.2.1.2.2.1⟩
theorem k_M_fr {I J : Ii} {mo : Nat} {r : Nat → Int32} {n m g : Nat} (h : k_M I mo r n m g) (h1 : ∀ a, 3 ≤ a → a ≤ 10 → J a = I a) (h2 : J 42 0 = I 42 0) (h3 : ∀ a, 42 < a → a ≤ 46 → J a = I a) (h4 : ∀ a, mo ≤ a → a ≤ mo + 4 → J a = I a) (h5 : z_Lg J mo 61 r g) : k_M J mo r n m g := ⟨h.1, z_Sh_fr h.2.1 (fun a x y => h1 a x y), z_La_fr h.2.2.1 h2 (fun a x y => h3 a x y), z_Mo_fr h.2.2.2.1 (fun a x y => h4 a x y), h5⟩
theorem z_Lg_fr {I J : Ii} {mo bk : Nat} {r : Nat → Int32} {g : Nat} (h : z_Lg I mo bk r g) (h1 : J mo 8 = I mo 8) (h2 : J bk = I bk) : z_Lg J mo bk r g := ⟨h1.trans h.1, fun i c a b e => by rw [h2]; exact h.2 i c a b e⟩
def m_hi (a k : Nat) : Bool := (Nat.ble 66 a && Nat.ble a 125) || (a == 64 && (k == 1 || k == 2))
def k_z (z : Nat) : Nat := if z < 12 then z + 1 else 12
def k_sh (z : Nat) : Nat := if z < 12 then 0 else 1
def k_H' (z : Nat) {α : Type} (H : Nat → α) : Nat → α := fun i => if i < k_z z then H (i + k_sh z) else H z
theorem k_S_rem (X : Sx) (d : Nat) (I : Ii) (T : Tt) (n m : Nat) (G : Nat → Nat) (p z : Nat) (H : Nat → Nat → Int32) (h : k_S I n m G p z H) : ∃ J, c_X3_remember_64_27 X (d + 2) I T = z_v J T ∧ z_fr m_hi I J ∧ k_S J n m (k_H' z G) ((p + 1) % 12) (k_z z) (k_H' z H) := by
  obtain ⟨hp, hz, h1, h2, h3, h4, h5⟩ := h
  have hn := h3.1.2.1
  have e := k_remember X d I T p z hp hz h1 h2
  have ez : (if z < 12 then z + 1 else 12) = k_z z := rfl
  rw [ez] at e
  have oth : ∀ a, a ≠ 64 → (a < 66 + 5 * p ∨ 66 + 5 * p + 4 < a) → q_w (q_w (k_cp I 27 (66 + 5 * p)) 64 1 (nI ((p + 1) % 12))) 64 2 (nI (k_z z)) a = I a := by
    intro a ha hb
    rw [z_w_a _ _ _ _ _ ha, z_w_a _ _ _ _ _ ha, k_cp_o _ _ _ _ hb]
  have inn : ∀ a, a ≠ 64 → q_w (q_w (k_cp I 27 (66 + 5 * p)) 64 1 (nI ((p + 1) % 12))) 64 2 (nI (k_z z)) a = k_cp I 27 (66 + 5 * p) a := by
    intro a ha
    rw [z_w_a _ _ _ _ _ ha, z_w_a _ _ _ _ _ ha]
  refine ⟨_, e, ?_, ?_⟩
  · intro a k hm
    have c1 : ¬ (66 ≤ a ∧ a ≤ 125) := by
      intro c
      have : m_hi a k = true := by unfold m_hi; simp [c.1, c.2]
      rw [this] at hm; cases hm
    by_cases a64 : a = 64
    · subst a64
      have c2 : k ≠ 1 ∧ k ≠ 2 := by
        constructor <;> (intro c; subst c; cases hm)
      rw [z_w_k _ _ _ _ _ c2.2, z_w_k _ _ _ _ _ c2.1, k_cp_o _ _ _ _ (by omega)]
    · rw [oth a a64 (by omega)]
  · generalize hJ : q_w (q_w (k_cp I 27 (66 + 5 * p)) 64 1 (nI ((p + 1) % 12))) 64 2 (nI (k_z z)) = J at *
    have zk : k_z z ≤ 12 ∧ 1 ≤ k_z z ∧ k_z z + k_sh z = z + 1 := by unfold k_z k_sh; split <;> omega
    have fr : ∀ mo r g, k_M I mo r n m g → mo ≠ 64 → (mo + 4 < 66 + 5 * p ∨ 66 + 5 * p + 4 < mo) → (mo + 4 < 64 ∨ 64 < mo) → k_M J mo r n m g := by
      intro mo r g hM b1 b2 b3
      refine k_M_fr hM (fun a x y => oth a (by omega) (by omega)) (by rw [oth 42 (by omega) (by omega)]) (fun a x y => oth a (by omega) (by omega)) (fun a x y => oth a (by omega) (by omega)) ?_
      exact z_Lg_fr hM.2.2.2.2 (by rw [oth mo (by omega) (by omega)]) (oth 61 (by omega) (by omega))
    have new : k_M J (66 + 5 * p) (H z) n m (G z) := by
      refine ⟨h3.1, z_Sh_fr h3.2.1 (fun a x y => oth a (by omega) (by omega)), z_La_fr h3.2.2.1 (by rw [oth 42 (by omega) (by omega)]) (fun a x y => oth a (by omega) (by omega)), ?_, ?_⟩
      · exact z_Mo_fr (k_cp_Mo I 27 (66 + 5 * p) (H z) n (by omega) hn h3.2.2.2.1) (fun a x y => inn a (by omega))
      · exact z_Lg_fr (k_cp_Lg I 27 (66 + 5 * p) 61 (H z) (G z) (by omega) h3.2.2.2.2) (by rw [inn _ (by omega)]) (inn 61 (by omega))
    have Hz : ∀ {α : Type} (F : Nat → α), k_H' z F (k_z z) = F z := fun F => by unfold k_H'; rw [if_neg (by omega)]
    have Hi : ∀ {α : Type} (F : Nat → α) i, i < k_z z → k_H' z F i = F (i + k_sh z) := fun F i hi => by unfold k_H'; rw [if_pos hi]
    refine ⟨by omega, zk.1, ?_, ?_, ?_, ?_, ?_⟩
    · rw [← hJ, z_w_k _ _ _ _ _ (by decide), z_w_s]
    · rw [← hJ, z_w_s]
    · rw [Hz, Hz]
      exact fr 27 _ _ h3 (by omega) (by omega) (by omega)
    · intro i hi
      rw [Hi _ i hi, Hi _ i hi]
      by_cases el : i + k_sh z = z
      · rw [el]
        have ea : k_at ((p + 1) % 12) (k_z z) i = 66 + 5 * p := by
          unfold k_at
          have : ((p + 1) % 12 + 12 - k_z z + i) % 12 = p := by omega
          rw [this]
        rw [ea]
        exact new
      · have hlt : i + k_sh z < z := by omega
        have ea : k_at ((p + 1) % 12) (k_z z) i = k_at p z (i + k_sh z) := by
          unfold k_at
          have : ((p + 1) % 12 + 12 - k_z z + i) % 12 = (p + 12 - z + (i + k_sh z)) % 12 := by omega
          rw [this]
        rw [ea]
        have hb := k_at_b p z (i + k_sh z)
        have hne : (p + 12 - z + (i + k_sh z)) % 12 ≠ p := by omega
        refine fr _ _ _ (h4 _ hlt) (by omega) ?_ (by omega)
        unfold k_at
        omega
    · intro i j hij hj
      by_cases ej : j < k_z z
      · rw [Hi _ i (by omega), Hi _ j ej]
        have := h5 (i + k_sh z) (j + k_sh z) (by omega) (by omega)
        omega
      · have ej2 : j = k_z z := by omega
        subst ej2
        rw [Hz]
        by_cases ei : i < k_z z
        · rw [Hi _ i ei]
          have := h5 (i + k_sh z) z (by omega) (by omega)
          omega
        · have : i = k_z z := by omega
          subst this
          rw [Hz]; omega
