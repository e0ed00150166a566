/-! ===== THE CLASS: its rack arranged ===== -/
def m_133 (a _k : Nat) : Bool := a == 133 || a == 134
def z_u (σ : Nat → Nat) (I : Ii) (a m : Nat) : Prop := ∀ f, f < m → I a f = nI (σ f)
/-- a row of numbers with a hole at y -/
def z_uh (σ : Nat → Nat) (I : Ii) (a x y : Nat) : Prop := ∀ f, f ≤ x → f ≠ y → I a f = nI (σ f)
theorem k_sort9 (X : Sx) (d : Nat) (T : Tt) (r : Nat → Int32) (n x : Nat) (h : a_ok r n) (hx : x < n) : ∀ (y : Nat) (σ : Nat → Nat) (I : Ii), (∀ j, j < n → I 29 j = nI (a_s r j)) → a_sh (fun j => 20 - a_s r j) σ x y → z_uh σ I 133 x y → ∃ σ' y' J, c_X8_sortBoth_132_9 X d (nI x) (nI y) I T = c_X8_sortBoth_132_39 X d (nI x) (nI y') J T ∧ z_fr (fun a _ => a == 133) I J ∧ y' ≤ x ∧ a_sd (fun j => 20 - a_s r j) (a_u σ' y' x) (x + 1) ∧ z_uh σ' J 133 x y' := by
  have hn := h.2.1
  intro y
  induction y with
  | zero =>
    intro σ I h29 hs hu
    refine ⟨σ, 0, I, ?_, z_fr_r _ _, by omega, a_s2 hs (fun z hz => by omega), hu⟩
    rw [e_X8_sortBoth_132_9]
    rfl
  | succ y ih =>
    intro σ I h29 hs hu
    have c1 : I 133 y = nI (σ y) := hu y (by have := hs.1; omega) (by omega)
    have c2 : σ y < x := hs.2.1 y (by have := hs.1; omega) (by omega)
    have c3 := h29 (σ y) (by omega)
    have c4 := h29 x hx
    have c5 := (h.2.2.1 (σ y) (by omega)).2
    have c6 := (h.2.2.1 x hx).2
    have c7 : nI (y + 1) - 1 = nI y := pk_sub (a := y + 1) (b := 1) (by omega)
    have c8 := hs.1
    by_cases g : a_s r (σ y) < a_s r x
    · obtain ⟨σ', y', J, p1, p2, p3, p4, p5⟩ := ih (a_u σ (y + 1) (σ y)) (q_w I 133 (y + 1) (nI (σ y))) (fun j hj => by rw [z_w_a _ _ _ _ _ (by decide)]; exact h29 j hj) (a_s1 hs (by show 20 - a_s r x < 20 - a_s r (σ y); omega)) (fun f hf hne => by
        rw [z_w]
        unfold a_u
        by_cases e : f = y + 1
        · rw [if_pos ⟨rfl, e⟩, if_pos e]
        · rw [if_neg (fun c => e c.2), if_neg e]; exact hu f hf e)
      refine ⟨σ', y', J, ?_, z_fr_t (z_fr_w (z_fr_r _ _) 133 _ _ rfl) p2, p3, p4, p5⟩
      rw [← p1, e_X8_sortBoth_132_9]
      simp (disch := omega) only [c7, c1, c3, c4, a_dec, q_bd_l, z_ltT, z_ltF, z_eqT, z_eqF, z_ltlT, z_ltlF, z_lltT, z_lltF, z_eqlT, z_eqlF, z_in, z_k7, z_cl, z_lneg, z_llT, z_llF, z_s1, z_nI_cl, z_nlt0, z_ne_m1, z_b0, z_b1, z_la, z_al, z_lm, z_ml, z_nm, nI_add, pk_mul, ↓reduceIte, not_true_eq_false, not_false_eq_true, true_or, or_true, false_or, or_false, true_and, and_true, and_false, false_and, Classical.not_not, Nat.add_zero, z_01, z_em, z_bit_p, Nat.not_le, Nat.not_lt, reduceCtorEq, if_true, if_false]
    · refine ⟨σ, y + 1, I, ?_, z_fr_r _ _, hs.1, a_s2 hs (fun z hz => by
        have : z = y := by omega
        subst this
        show 20 - a_s r (σ z) ≤ 20 - a_s r x
        omega), hu⟩
      rw [e_X8_sortBoth_132_9]
      simp (disch := omega) only [c7, c1, c3, c4, q_bd_l, z_ltT, z_ltF, z_eqT, z_eqF, z_ltlT, z_ltlF, z_lltT, z_lltF, z_eqlT, z_eqlF, z_in, z_k7, z_cl, z_lneg, z_llT, z_llF, z_s1, z_nI_cl, z_nlt0, z_ne_m1, z_b0, z_b1, z_la, z_al, z_lm, z_ml, z_nm, nI_add, pk_mul, ↓reduceIte, not_true_eq_false, not_false_eq_true, true_or, or_true, false_or, or_false, true_and, and_true, and_false, false_and, Classical.not_not, Nat.add_zero, z_01, z_em, z_bit_p, Nat.not_le, Nat.not_lt, reduceCtorEq, if_true, if_false]
theorem k_sort53 (X : Sx) (d : Nat) (T : Tt) (r : Nat → Int32) (n x : Nat) (h : a_ok r n) (hx : x < 12) : ∀ (y : Nat) (σ : Nat → Nat) (I : Ii), (∀ j, j < 12 → I 7 j = nI (a_l r j)) → a_sh (a_l r) σ x y → z_uh σ I 134 x y → ∃ σ' y' J, c_X8_sortBoth_132_53 X d (nI x) (nI y) I T = c_X8_sortBoth_132_83 X d (nI x) (nI y') J T ∧ z_fr (fun a _ => a == 134) I J ∧ y' ≤ x ∧ a_sd (a_l r) (a_u σ' y' x) (x + 1) ∧ z_uh σ' J 134 x y' := by
  intro y
  induction y with
  | zero =>
    intro σ I h29 hs hu
    refine ⟨σ, 0, I, ?_, z_fr_r _ _, by omega, a_s2 hs (fun z hz => by omega), hu⟩
    rw [e_X8_sortBoth_132_53]
    rfl
  | succ y ih =>
    intro σ I h29 hs hu
    have c1 : I 134 y = nI (σ y) := hu y (by have := hs.1; omega) (by omega)
    have c2 : σ y < x := hs.2.1 y (by have := hs.1; omega) (by omega)
    have c3 := h29 (σ y) (by omega)
    have c4 := h29 x hx
    have c5 := (h.2.2.2 (σ y) (by omega)).2
    have c6 := (h.2.2.2 x hx).2
    have c7 : nI (y + 1) - 1 = nI y := pk_sub (a := y + 1) (b := 1) (by omega)
    have c8 := hs.1
    by_cases g : a_l r x < a_l r (σ y)
    · obtain ⟨σ', y', J, p1, p2, p3, p4, p5⟩ := ih (a_u σ (y + 1) (σ y)) (q_w I 134 (y + 1) (nI (σ y))) (fun j hj => by rw [z_w_a _ _ _ _ _ (by decide)]; exact h29 j hj) (a_s1 hs g) (fun f hf hne => by
        rw [z_w]
        unfold a_u
        by_cases e : f = y + 1
        · rw [if_pos ⟨rfl, e⟩, if_pos e]
        · rw [if_neg (fun c => e c.2), if_neg e]; exact hu f hf e)
      refine ⟨σ', y', J, ?_, z_fr_t (z_fr_w (z_fr_r _ _) 134 _ _ rfl) p2, p3, p4, p5⟩
      rw [← p1, e_X8_sortBoth_132_53]
      simp (disch := omega) only [c7, c1, c3, c4, a_dec, q_bd_l, z_ltT, z_ltF, z_eqT, z_eqF, z_ltlT, z_ltlF, z_lltT, z_lltF, z_eqlT, z_eqlF, z_in, z_k7, z_cl, z_lneg, z_llT, z_llF, z_s1, z_nI_cl, z_nlt0, z_ne_m1, z_b0, z_b1, z_la, z_al, z_lm, z_ml, z_nm, nI_add, pk_mul, ↓reduceIte, not_true_eq_false, not_false_eq_true, true_or, or_true, false_or, or_false, true_and, and_true, and_false, false_and, Classical.not_not, Nat.add_zero, z_01, z_em, z_bit_p, Nat.not_le, Nat.not_lt, reduceCtorEq, if_true, if_false]
    · refine ⟨σ, y + 1, I, ?_, z_fr_r _ _, hs.1, a_s2 hs (fun z hz => by
        have : z = y := by omega
        subst this
        omega), hu⟩
      rw [e_X8_sortBoth_132_53]
      simp (disch := omega) only [c7, c1, c3, c4, q_bd_l, z_ltT, z_ltF, z_eqT, z_eqF, z_ltlT, z_ltlF, z_lltT, z_lltF, z_eqlT, z_eqlF, z_in, z_k7, z_cl, z_lneg, z_llT, z_llF, z_s1, z_nI_cl, z_nlt0, z_ne_m1, z_b0, z_b1, z_la, z_al, z_lm, z_ml, z_nm, nI_add, pk_mul, ↓reduceIte, not_true_eq_false, not_false_eq_true, true_or, or_true, false_or, or_false, true_and, and_true, and_false, false_and, Classical.not_not, Nat.add_zero, z_01, z_em, z_bit_p, Nat.not_le, Nat.not_lt, reduceCtorEq, if_true, if_false]
theorem k_sort (X : Sx) (d : Nat) (I : Ii) (T : Tt) (r : Nat → Int32) (n m : Nat) (h : k_H27 I r n m) : ∃ J σ π, c_X8_sortBoth_132 X (d + 1) I T = z_v J T ∧ z_fr m_133 I J ∧ a_sd (fun j => 20 - a_s r j) σ n ∧ z_u σ J 133 n ∧ a_sd (a_l r) π 12 ∧ z_u π J 134 12 := by
  have ho := a_ok_of h.1
  have hn := ho.2.1
  have n3 := k_n3 h
  have h29 : ∀ j, j < n → I 29 j = nI (a_s r j) := fun j hj => (h.2.2.1.2.2.2.2.2.1 j hj).trans (ho.2.2.1 j hj).1
  have h7 : ∀ j, j < 12 → I 7 j = nI (a_l r j) := fun j hj => (h.2.1.2.2.2.2.2.2.2.2.2.1 j hj).trans (ho.2.2.2 j hj).1
  obtain ⟨⟨J, o2⟩, ⟨p1, σ, p2, p3⟩, p4⟩ := z_foldP (β := Unit) (σ := Ii × Option Value) (fun x _ S => c_X8_sortBoth_132_2 X d (nI x) S.2 S.1 T) (fun _ a => a) (fun x _ S => z_fr m_133 I S.1 ∧ ∃ σ, a_sd (fun j => 20 - a_s r j) σ x ∧ z_u σ S.1 133 x) n (by
    intro x _ S hx ⟨q1, σ, q2, q3⟩
    obtain ⟨J, o⟩ := S
    dsimp only at q1 q2 q3 ⊢
    obtain ⟨σ', y', K, w1, w2, w3, w4, w5⟩ := k_sort9 X d T r n x ho hx x σ J (fun j hj => by rw [q1 29 j rfl]; exact h29 j hj) (a_s0 q2) (fun f hf hne => q3 f (by omega))
    refine ⟨(q_w K 133 y' (nI x), some (.int (nI y'))), ⟨z_fr_w (z_fr_t q1 (z_fr_m w2 (fun a k h => by simp at h; simp [m_133, h]))) 133 _ _ rfl, a_u σ' y' x, w4, fun f hf => ?_⟩, ?_⟩
    · dsimp only
      rw [z_w]
      unfold a_u
      by_cases e : f = y'
      · rw [if_pos ⟨rfl, e⟩, if_pos e]
      · rw [if_neg (fun c => e c.2), if_neg e]; exact w5 f (by omega) e
    · have e3 : J 3 0 = nI n := by rw [q1 3 0 rfl]; exact n3
      rw [e_X8_sortBoth_132_2, e3, if_pos (nI_lt hx (by omega)), w1, e_X8_sortBoth_132_39]
      simp (disch := omega) only [q_bd_l, z_ltT, z_ltF, z_eqT, z_eqF, z_ltlT, z_ltlF, z_lltT, z_lltF, z_eqlT, z_eqlF, z_in, z_k7, z_cl, z_lneg, z_llT, z_llF, z_s1, z_nI_cl, z_nlt0, z_ne_m1, z_b0, z_b1, z_la, z_al, z_lm, z_ml, z_nm, nI_add, pk_mul, ↓reduceIte, not_true_eq_false, not_false_eq_true, true_or, or_true, false_or, or_false, true_and, and_true, and_false, false_and, Classical.not_not, Nat.add_zero, z_01, z_em, z_bit_p, Nat.not_le, Nat.not_lt, reduceCtorEq, if_true, if_false]) () (I, none) ⟨z_fr_r _ _, fun _ => 0, a_sd0 _ _, fun f hf => by omega⟩
  dsimp only at p1 p2 p3
  obtain ⟨⟨K, o3⟩, ⟨s1, π, s2, s3⟩, s4⟩ := z_foldP (β := Unit) (σ := Ii × Option Value) (fun x _ S => c_X8_sortBoth_132_48 X d (nI x) S.2 S.1 T) (fun _ a => a) (fun x _ S => z_fr (fun a _ => a == 134) J S.1 ∧ ∃ σ, a_sd (a_l r) σ x ∧ z_u σ S.1 134 x) 12 (by
    intro x _ S hx ⟨q1, σ, q2, q3⟩
    obtain ⟨L, o⟩ := S
    dsimp only at q1 q2 q3 ⊢
    obtain ⟨σ', y', K, w1, w2, w3, w4, w5⟩ := k_sort53 X d T r n x ho hx x σ L (fun j hj => by rw [q1 7 j rfl, p1 7 j rfl]; exact h7 j hj) (a_s0 q2) (fun f hf hne => q3 f (by omega))
    refine ⟨(q_w K 134 y' (nI x), some (.int (nI y'))), ⟨z_fr_w (z_fr_t q1 w2) 134 _ _ rfl, a_u σ' y' x, w4, fun f hf => ?_⟩, ?_⟩
    · dsimp only
      rw [z_w]
      unfold a_u
      by_cases e : f = y'
      · rw [if_pos ⟨rfl, e⟩, if_pos e]
      · rw [if_neg (fun c => e c.2), if_neg e]; exact w5 f (by omega) e
    · rw [e_X8_sortBoth_132_48, if_pos (show nI x < (12 : Int32) from nI_lt (b := 12) hx (by omega)), w1, e_X8_sortBoth_132_83]
      simp (disch := omega) only [q_bd_l, z_ltT, z_ltF, z_eqT, z_eqF, z_ltlT, z_ltlF, z_lltT, z_lltF, z_eqlT, z_eqlF, z_in, z_k7, z_cl, z_lneg, z_llT, z_llF, z_s1, z_nI_cl, z_nlt0, z_ne_m1, z_b0, z_b1, z_la, z_al, z_lm, z_ml, z_nm, nI_add, pk_mul, ↓reduceIte, not_true_eq_false, not_false_eq_true, true_or, or_true, false_or, or_false, true_and, and_true, and_false, false_and, Classical.not_not, Nat.add_zero, z_01, z_em, z_bit_p, Nat.not_le, Nat.not_lt, reduceCtorEq, if_true, if_false]) () (J, o2) ⟨z_fr_r _ _, fun _ => 0, a_sd0 _ _, fun f hf => by omega⟩
  dsimp only at s1 s2 s3
  refine ⟨K, σ, π, ?_, z_fr_t p1 (z_fr_m s1 (fun a k h => by simp at h; simp [m_133, h])), p2, fun f hf => by rw [s1 133 f rfl]; exact p3 f hf, s2, s3⟩
  have e3 : J 3 0 = nI n := by rw [p1 3 0 rfl]; exact n3
  rw [e_X8_sortBoth_132]
  refine (show c_X8_sortBoth_132_2 X d (nI 0) none I T = _ from p4).trans ?_
  dsimp only
  rw [e_X8_sortBoth_132_2, e3, if_neg (nI_nlt (Nat.le_refl _) (by omega))]
  refine (show c_X8_sortBoth_132_48 X d (nI 0) o2 J T = _ from s4).trans ?_
  dsimp only
  rw [e_X8_sortBoth_132_48, if_neg (by decide)]
/-- both orders stand there -/
def k_so (J : Ii) (r : Nat → Int32) (n : Nat) : Prop := ∃ σ π, a_sd (fun j => 20 - a_s r j) σ n ∧ z_u σ J 133 n ∧ a_sd (a_l r) π 12 ∧ z_u π J 134 12
theorem k_lh19 (X : Sx) (d : Nat) (I : Ii) (T : Tt) (l π : Nat → Nat) (tk : Nat) (htk : tk < 4096) (hp : a_sd l π 12) (hu : z_u π I 134 12) (v1 v3 v5 v6 : Int32) (s σ : Nat → Nat) (n first f : Nat) : ∀ m e, e + m = 12 → 0 < a_e π tk e → ∃ e', e' < 12 ∧ tk.testBit (π e') = false ∧ c_X8_leastHarmFrom_132_19 X d v1 (nI tk) v3 (nI e) v5 v6 I T = c_X8_leastHarmFrom_132_34 X d v1 (nI tk) v3 (nI e') v5 v6 I T ∧ a_L (a_n s σ n first f) (a_d l π tk e) = a_L (a_n s σ n first f) (a_d l π tk e') ∧ a_e π tk e = a_e π tk e' := by
  intro m
  induction m with
  | zero => intro e he h0; rw [show e = 12 from by omega] at h0; exact absurd h0 (by show ¬ 0 < 0; omega)
  | succ m ih =>
    intro e he h0
    have c1 := hu e (by omega)
    have c2 := hp.1 e (by omega)
    have hb : z_bit (nI tk) (π e) = tk.testBit (π e) := z_bit_nI tk _ (by omega) (by omega)
    cases c : tk.testBit (π e) with
    | true =>
      obtain ⟨w1, w2⟩ := a_w2 s l σ π n first tk f e (by omega) c
      obtain ⟨e', x1, x2, x3, x4, x5⟩ := ih (e + 1) (by omega) (by omega)
      refine ⟨e', x1, x2, ?_, w1.trans x4, w2.trans x5⟩
      rw [← x3, e_X8_leastHarmFrom_132_19]
      simp (disch := omega) only [c1, hb, c, q_bd_l, z_ltT, z_ltF, z_eqT, z_eqF, z_ltlT, z_ltlF, z_lltT, z_lltF, z_eqlT, z_eqlF, z_in, z_k7, z_cl, z_lneg, z_llT, z_llF, z_s1, z_nI_cl, z_nlt0, z_ne_m1, z_b0, z_b1, z_la, z_al, z_lm, z_ml, z_nm, nI_add, pk_mul, ↓reduceIte, not_true_eq_false, not_false_eq_true, true_or, or_true, false_or, or_false, true_and, and_true, and_false, false_and, Classical.not_not, Nat.add_zero, z_01, z_em, z_bit_p, Nat.not_le, Nat.not_lt, reduceCtorEq, if_true, if_false, decide_true, decide_false, Bool.and_true, Bool.and_false, Bool.true_and, Bool.false_and, Bool.or_true, Bool.or_false, Bool.true_or, Bool.false_or, Bool.false_eq_true, ne_eq, Bool.not_true, Bool.not_false, decide_not]
    | false =>
      refine ⟨e, by omega, c, ?_, rfl, rfl⟩
      rw [e_X8_leastHarmFrom_132_19]
      simp (disch := omega) only [c1, hb, c, q_bd_l, z_ltT, z_ltF, z_eqT, z_eqF, z_ltlT, z_ltlF, z_lltT, z_lltF, z_eqlT, z_eqlF, z_in, z_k7, z_cl, z_lneg, z_llT, z_llF, z_s1, z_nI_cl, z_nlt0, z_ne_m1, z_b0, z_b1, z_la, z_al, z_lm, z_ml, z_nm, nI_add, pk_mul, ↓reduceIte, not_true_eq_false, not_false_eq_true, true_or, or_true, false_or, or_false, true_and, and_true, and_false, false_and, Classical.not_not, Nat.add_zero, z_01, z_em, z_bit_p, Nat.not_le, Nat.not_lt, reduceCtorEq, if_true, if_false, decide_true, decide_false, Bool.and_true, Bool.and_false, Bool.true_and, Bool.false_and, Bool.or_true, Bool.or_false, Bool.true_or, Bool.false_or, Bool.false_eq_true, ne_eq, Bool.not_true, Bool.not_false, decide_not]
theorem k_leastFrom (X : Sx) (d : Nat) (I : Ii) (T : Tt) (r : Nat → Int32) (n m first tk : Nat) (h : k_H27 I r n m) (hs : k_so I r n) (htk : tk < 4096) (hfi : first ≤ n) (hf : n - first ≤ a_fr tk) : c_X8_leastHarmFrom_132 X (d + 2) (nI first) (nI tk) I T = z_r (nI (a_F (a_s r) (a_l r) n first tk)) I T := by
  have ho := a_ok_of h.1
  have hn := ho.2.1
  have n3 := k_n3 h
  obtain ⟨σ, π, s1, s2, s3, s4⟩ := hs
  have hsp := fun j hj => (ho.2.2.1 j hj).2
  have hli := fun p hp => (ho.2.2.2 p hp).2
  obtain ⟨w1, w2, w3⟩ := a_wF (a_s r) (a_l r) σ π n first tk s1 s3
  have key : ∀ q f e v o6, f + q = n → e ≤ 12 → a_k σ n first f ≤ a_e π tk e → c_X8_leastHarmFrom_132_6 X (d + 1) (nI first) (nI tk) (nI v) (nI e) (nI f) o6 I T = z_r (nI (v + a_L (a_n (a_s r) σ n first f) (a_d (a_l r) π tk e))) I T := by
    intro q
    induction q with
    | zero =>
      intro f e v o6 hq he hc
      have hfn : f = n := by omega
      subst hfn
      rw [a_w0, e_X8_leastHarmFrom_132_6, n3, if_neg (nI_nlt (Nat.le_refl _) (by omega))]
      rfl
    | succ q ih =>
      intro f e v o6 hq he hc
      have c1 := s2 f (by omega)
      have c2 := s1.1 f (by omega)
      by_cases g : first ≤ σ f
      · have hk1 : 0 < a_k σ n first f := by
          unfold a_k
          rw [a_c_h _ f n (by omega)]
          simp [g]; omega
        obtain ⟨e', x1, x2, x3, x4, x5⟩ := k_lh19 X (d + 1) I T (a_l r) π tk htk s3 s4 (nI first) (nI v) (nI f) (nI (σ f)) (a_s r) σ n first f (12 - e) e (by omega) (by omega)
        obtain ⟨y1, y2, y3⟩ := a_w3 (a_s r) (a_l r) σ π n first tk f e' hsp hli s1 s3 (by omega) x1 g x2
        have hh := k_harmOn X d I T r n m (π e') (σ f) h (s3.1 e' x1) c2
        have c3 := s4 e' x1
        have c4 : r (142 + π e') * r (12 + 13 * σ f + 2) = nI (a_l r (π e') * a_s r (σ f)) := by
          rw [(ho.2.2.2 _ (s3.1 e' x1)).1, (ho.2.2.1 _ c2).1, pk_mul]
        rw [c4] at hh
        have nx := ih (f + 1) (e' + 1) (v + a_l r (π e') * a_s r (σ f)) (some (.int (nI (σ f)))) (by omega) (by omega) (by omega)
        rw [x4, y1, ← Nat.add_assoc, ← nx, e_X8_leastHarmFrom_132_6]
        have st : c_X8_leastHarmFrom_132_34 X (d + 1) (nI first) (nI tk) (nI v) (nI e') (nI f) (nI (σ f)) I T = c_X8_leastHarmFrom_132_6 X (d + 1) (nI first) (nI tk) (nI (v + a_l r (π e') * a_s r (σ f))) (nI (e' + 1)) (nI (f + 1)) (some (.int (nI (σ f)))) I T := by
          rw [e_X8_leastHarmFrom_132_34]
          simp (disch := omega) only [e_X8_leastHarmFrom_132_45, k_X8_leastHarmFrom_132_45, e_X8_leastHarmFrom_132_48, c3, hh, q_bd_l, z_ltT, z_ltF, z_eqT, z_eqF, z_ltlT, z_ltlF, z_lltT, z_lltF, z_eqlT, z_eqlF, z_in, z_k7, z_cl, z_lneg, z_llT, z_llF, z_s1, z_nI_cl, z_nlt0, z_ne_m1, z_b0, z_b1, z_la, z_al, z_lm, z_ml, z_nm, nI_add, pk_mul, ↓reduceIte, not_true_eq_false, not_false_eq_true, true_or, or_true, false_or, or_false, true_and, and_true, and_false, false_and, Classical.not_not, Nat.add_zero, z_01, z_em, z_bit_p, Nat.not_le, Nat.not_lt, reduceCtorEq, if_true, if_false]
        rw [← st, ← x3]
        simp (disch := omega) only [n3, c1, q_bd_l, z_ltT, z_ltF, z_eqT, z_eqF, z_ltlT, z_ltlF, z_lltT, z_lltF, z_eqlT, z_eqlF, z_in, z_k7, z_cl, z_lneg, z_llT, z_llF, z_s1, z_nI_cl, z_nlt0, z_ne_m1, z_b0, z_b1, z_la, z_al, z_lm, z_ml, z_nm, nI_add, pk_mul, ↓reduceIte, not_true_eq_false, not_false_eq_true, true_or, or_true, false_or, or_false, true_and, and_true, and_false, false_and, Classical.not_not, Nat.add_zero, z_01, z_em, z_bit_p, Nat.not_le, Nat.not_lt, reduceCtorEq, if_true, if_false]
      · obtain ⟨y1, y2⟩ := a_w1 (a_s r) (a_l r) σ π n first tk f e (by omega) g
        have nx := ih (f + 1) e v (some (.int (nI (σ f)))) (by omega) he (by omega)
        rw [y1, ← nx, e_X8_leastHarmFrom_132_6]
        simp (disch := omega) only [e_X8_leastHarmFrom_132_48, n3, c1, q_bd_l, z_ltT, z_ltF, z_eqT, z_eqF, z_ltlT, z_ltlF, z_lltT, z_lltF, z_eqlT, z_eqlF, z_in, z_k7, z_cl, z_lneg, z_llT, z_llF, z_s1, z_nI_cl, z_nlt0, z_ne_m1, z_b0, z_b1, z_la, z_al, z_lm, z_ml, z_nm, nI_add, pk_mul, ↓reduceIte, not_true_eq_false, not_false_eq_true, true_or, or_true, false_or, or_false, true_and, and_true, and_false, false_and, Classical.not_not, Nat.add_zero, z_01, z_em, z_bit_p, Nat.not_le, Nat.not_lt, reduceCtorEq, if_true, if_false]
  rw [e_X8_leastHarmFrom_132]
  have := key n 0 0 0 none (by omega) (by omega) (by omega)
  rw [w1, Nat.zero_add] at this
  exact this
theorem k_so_fr {I J : Ii} {r : Nat → Int32} {n : Nat} (h : k_so I r n) (h1 : J 133 = I 133) (h2 : J 134 = I 134) : k_so J r n := by
  obtain ⟨σ, π, s1, s2, s3, s4⟩ := h
  exact ⟨σ, π, s1, fun f hf => by rw [h1]; exact s2 f hf, s3, fun f hf => by rw [h2]; exact s4 f hf⟩
theorem a_and2 (tk p : Nat) : tk &&& 2 ^ p = if tk.testBit p = true then 2 ^ p else 0 := by
  apply Nat.eq_of_testBit_eq
  intro i
  rw [Nat.testBit_and, Nat.testBit_two_pow]
  by_cases h : p = i
  · subst h
    cases c : tk.testBit p <;> simp
  · cases c : tk.testBit p <;> simp [h]
theorem a_and (tk p : Nat) (hp : p < 12) : (nI tk &&& (1 : Int32) <<< (nI p &&& 31) = 0) = (tk.testBit p = false) := by
  rw [z_shl1 p (by omega), z_nand, a_and2]
  have h1 : (2 : Nat) ^ p ≤ 2 ^ 11 := Nat.pow_le_pow_right (by decide) (by omega)
  have h0 : 0 < (2 : Nat) ^ p := Nat.two_pow_pos p
  cases tk.testBit p
  · simp
    rfl
  · simp only [if_true]
    have : (nI (2 ^ p) = (0 : Int32)) = (2 ^ p = 0) := z_eq_l _ 0 (by omega) (by omega)
    rw [this]
    simp
theorem k_firstFor (X : Sx) (d : Nat) (I : Ii) (T : Tt) (r : Nat → Int32) (n m j tk : Nat) (h : k_H27 I r n m) (hs : k_so I r n) (hj : j < n) (htk : tk < 4096) (hf : n - j ≤ a_fr tk) : c_X8_firstPlaceFor_132 X (d + 4) (nI j) (nI tk) (nI (a_F (a_s r) (a_l r) n j tk)) I T = z_r (nI (a_P (a_s r) (a_l r) n j tk)) I T := by
  have ho := a_ok_of h.1
  have hn := ho.2.1
  have hsp := fun j hj => (ho.2.2.1 j hj).2
  have hli := fun p hp => (ho.2.2.2 p hp).2
  obtain ⟨q1, q2, q3, q4⟩ := a_P_s (a_s r) (a_l r) n j tk hsp hli hj hf
  have step : ∀ p o5, p < 12 → ((tk.testBit p = false ∧ a_l r p * a_s r j + a_F (a_s r) (a_l r) n (j + 1) (tk ||| 2 ^ p) = a_F (a_s r) (a_l r) n j tk) → c_X8_firstPlaceFor_132_2 X (d + 3) (nI j) (nI tk) (nI (a_F (a_s r) (a_l r) n j tk)) (nI p) o5 I T = z_r (nI p) I T) ∧ (¬ (tk.testBit p = false ∧ a_l r p * a_s r j + a_F (a_s r) (a_l r) n (j + 1) (tk ||| 2 ^ p) = a_F (a_s r) (a_l r) n j tk) → c_X8_firstPlaceFor_132_2 X (d + 3) (nI j) (nI tk) (nI (a_F (a_s r) (a_l r) n j tk)) (nI p) o5 I T = c_X8_firstPlaceFor_132_2 X (d + 3) (nI j) (nI tk) (nI (a_F (a_s r) (a_l r) n j tk)) (nI (p + 1)) (some (.int (nI (2 ^ p)))) I T) := by
    intro p o5 hp
    have e1 := a_and tk p hp
    have e2 : (1 : Int32) <<< (nI p &&& 31) = nI (2 ^ p) := z_shl1 p (by omega)
    rw [e2] at e1
    rw [e_X8_firstPlaceFor_132_2]
    cases c : tk.testBit p with
    | true =>
      rw [c] at e1
      refine ⟨fun c => (by cases c.1), fun _ => ?_⟩
      simp (disch := omega) only [e_X8_firstPlaceFor_132_30, e1, e2, q_bd_l, z_ltT, z_ltF, z_eqT, z_eqF, z_ltlT, z_ltlF, z_lltT, z_lltF, z_eqlT, z_eqlF, z_in, z_k7, z_cl, z_lneg, z_llT, z_llF, z_s1, z_nI_cl, z_nlt0, z_ne_m1, z_b0, z_b1, z_la, z_al, z_lm, z_ml, z_nm, nI_add, pk_mul, ↓reduceIte, not_true_eq_false, not_false_eq_true, true_or, or_true, false_or, or_false, true_and, and_true, and_false, false_and, Classical.not_not, Nat.add_zero, z_01, z_em, z_bit_p, Nat.not_le, Nat.not_lt, reduceCtorEq, if_true, if_false, decide_true, decide_false, Bool.and_true, Bool.and_false, Bool.true_and, Bool.false_and, Bool.or_true, Bool.or_false, Bool.true_or, Bool.false_or, Bool.false_eq_true, ne_eq, Bool.not_true, Bool.not_false, decide_not]
    | false =>
      rw [c] at e1
      have hh := k_harmOn X (d + 2) I T r n m p j h hp hj
      rw [(ho.2.2.2 _ hp).1, (ho.2.2.1 _ hj).1, pk_mul] at hh
      have hf2 := a_fr_s tk p hp c
      have lf := k_leastFrom X (d + 1) I T r n m (j + 1) (tk ||| 2 ^ p) h hs (a_or_k htk hp) (by omega) (by omega)
      have b1 := a_F_k (a_s r) (a_l r) n (j + 1) (tk ||| 2 ^ p) hn
      have b2 := a_F_k (a_s r) (a_l r) n j tk hn
      have b3 : a_l r p * a_s r j ≤ 9 * 20 := Nat.mul_le_mul (hli p hp) (hsp j hj)
      by_cases c2 : a_l r p * a_s r j + a_F (a_s r) (a_l r) n (j + 1) (tk ||| 2 ^ p) = a_F (a_s r) (a_l r) n j tk
      · refine ⟨fun _ => ?_, fun c => absurd ⟨rfl, c2⟩ c⟩
        simp (disch := omega) only [e_X8_firstPlaceFor_132_17, k_X8_firstPlaceFor_132_17, e_X8_firstPlaceFor_132_25, k_X8_firstPlaceFor_132_25, e_X8_firstPlaceFor_132_30, e1, e2, hh, lf, z_nor, q_bd_l, z_ltT, z_ltF, z_eqT, z_eqF, z_ltlT, z_ltlF, z_lltT, z_lltF, z_eqlT, z_eqlF, z_in, z_k7, z_cl, z_lneg, z_llT, z_llF, z_s1, z_nI_cl, z_nlt0, z_ne_m1, z_b0, z_b1, z_la, z_al, z_lm, z_ml, z_nm, nI_add, pk_mul, ↓reduceIte, not_true_eq_false, not_false_eq_true, true_or, or_true, false_or, or_false, true_and, and_true, and_false, false_and, Classical.not_not, Nat.add_zero, z_01, z_em, z_bit_p, Nat.not_le, Nat.not_lt, reduceCtorEq, if_true, if_false, decide_true, decide_false, Bool.and_true, Bool.and_false, Bool.true_and, Bool.false_and, Bool.or_true, Bool.or_false, Bool.true_or, Bool.false_or, Bool.false_eq_true, ne_eq, Bool.not_true, Bool.not_false, decide_not]
      · refine ⟨fun c => absurd c.2 c2, fun _ => ?_⟩
        simp (disch := omega) only [e_X8_firstPlaceFor_132_17, k_X8_firstPlaceFor_132_17, e_X8_firstPlaceFor_132_25, k_X8_firstPlaceFor_132_25, e_X8_firstPlaceFor_132_30, e1, e2, hh, lf, z_nor, q_bd_l, z_ltT, z_ltF, z_eqT, z_eqF, z_ltlT, z_ltlF, z_lltT, z_lltF, z_eqlT, z_eqlF, z_in, z_k7, z_cl, z_lneg, z_llT, z_llF, z_s1, z_nI_cl, z_nlt0, z_ne_m1, z_b0, z_b1, z_la, z_al, z_lm, z_ml, z_nm, nI_add, pk_mul, ↓reduceIte, not_true_eq_false, not_false_eq_true, true_or, or_true, false_or, or_false, true_and, and_true, and_false, false_and, Classical.not_not, Nat.add_zero, z_01, z_em, z_bit_p, Nat.not_le, Nat.not_lt, reduceCtorEq, if_true, if_false, decide_true, decide_false, Bool.and_true, Bool.and_false, Bool.true_and, Bool.false_and, Bool.or_true, Bool.or_false, Bool.true_or, Bool.false_or, Bool.false_eq_true, ne_eq, Bool.not_true, Bool.not_false, decide_not]
  rw [e_X8_firstPlaceFor_132]
  have go : ∀ q p o5, p + q = a_P (a_s r) (a_l r) n j tk → c_X8_firstPlaceFor_132_2 X (d + 3) (nI j) (nI tk) (nI (a_F (a_s r) (a_l r) n j tk)) (nI p) o5 I T = z_r (nI (a_P (a_s r) (a_l r) n j tk)) I T := by
    intro q
    induction q with
    | zero =>
      intro p o5 hp
      have e : p = a_P (a_s r) (a_l r) n j tk := by omega
      rw [(step p o5 (by omega)).1 (by rw [e]; exact ⟨q2, q3⟩), e]
    | succ q ih =>
      intro p o5 hp
      rw [(step p o5 (by omega)).2 (q4 p (by omega)), ih (p + 1) _ (by omega)]
  exact go _ 0 none (Nat.zero_add _)
theorem k_Xarranged1 (X : Sx) (d : Nat) (I : Ii) (T : Tt) (r : Nat → Int32) (n m : Nat) (v : Int32) (h : k_H27 I r n m) (hv : v = -1 ∨ ∃ j, j < n ∧ v = nI j) : ∃ J, c_X11_arranged_0 X (d + 12) v I T = z_r (R_arr r n v) J T ∧ z_fr m_cs I J := by
  have ho := a_ok_of h.1
  have hn := ho.2.1
  have hsp := fun j hj => (ho.2.2.1 j hj).2
  have hli := fun p hp => (ho.2.2.2 p hp).2
  have fr0 : n - 0 ≤ a_fr 0 := by show n ≤ 12; omega
  rcases hv with rfl | ⟨jar, hj, rfl⟩
  · obtain ⟨J, σ, π, p1, p2, p3⟩ := k_sort X (d + 9) I T r n m h
    have p2 : z_fr m_cs I J := z_fr_m p2 (fun a k h => by simp [m_133] at h; rcases h with h | h <;> simp [m_cs, h])
    have h' : k_H27 J r n m := k_H27_cs h p2
    have lf := k_leastFrom X (d + 8) J T r n m 0 0 h' ⟨σ, π, p3⟩ (by omega) (by omega) fr0
    have lf' : c_X8_leastHarmFrom_132 X (d + 10) 0 0 J T = _ := lf
    refine ⟨J, ?_, p2⟩
    unfold R_arr
    rw [if_pos rfl, e_X11_arranged_0]
    simp (disch := omega) only [e_X11_arranged_0, e_X11_arranged_0_6, k_X11_arranged_0_6, e_X11_arranged_0_10, k_X11_arranged_0_10, e_X11_arranged_0_14, k_X11_arranged_0_14, e_X8_leastHarm_132, e_X8_leastHarm_132_2, k_X8_leastHarm_132_2, e_X8_leastHarm_132_6, k_X8_leastHarm_132_6, p1, lf', q_bd_l, z_ltT, z_ltF, z_eqT, z_eqF, z_ltlT, z_ltlF, z_lltT, z_lltF, z_eqlT, z_eqlF, z_in, z_k7, z_cl, z_lneg, z_llT, z_llF, z_s1, z_nI_cl, z_nlt0, z_ne_m1, z_b0, z_b1, z_la, z_al, z_lm, z_ml, z_nm, nI_add, pk_mul, ↓reduceIte, not_true_eq_false, not_false_eq_true, true_or, or_true, false_or, or_false, true_and, and_true, and_false, false_and, Classical.not_not, Nat.add_zero, z_01, z_em, z_bit_p, Nat.not_le, Nat.not_lt, reduceCtorEq, if_true, if_false]
  · obtain ⟨J, σ, π, p1, p2, p3⟩ := k_sort X (d + 9) I T r n m h
    have p2 : z_fr m_cs I J := z_fr_m p2 (fun a k h => by simp [m_133] at h; rcases h with h | h <;> simp [m_cs, h])
    have h' : k_H27 J r n m := k_H27_cs h p2
    have lf := k_leastFrom X (d + 8) J T r n m 0 0 h' ⟨σ, π, p3⟩ (by omega) (by omega) fr0
    have lf' : c_X8_leastHarmFrom_132 X (d + 10) 0 0 J T = _ := lf
    refine ⟨J, ?_, p2⟩
    have st : ∀ j, j ≤ jar → ∀ v4, c_X8_arrangedPlaceOf_132_13 X (d + 10) (nI jar) (nI (a_F (a_s r) (a_l r) n j (a_W (a_s r) (a_l r) n j).1)) (nI (a_W (a_s r) (a_l r) n j).1) v4 (nI j) J T = c_X8_arrangedPlaceOf_132_13 X (d + 10) (nI jar) (nI (a_F (a_s r) (a_l r) n (j + 1) (a_W (a_s r) (a_l r) n (j + 1)).1)) (nI (a_W (a_s r) (a_l r) n (j + 1)).1) (nI (a_W (a_s r) (a_l r) n (j + 1)).2) (nI (j + 1)) J T := by
      intro j hj v4
      obtain ⟨w1, w2⟩ := a_W_s (a_s r) (a_l r) n hn hsp hli j (by omega)
      have e1 : (a_W (a_s r) (a_l r) n (j + 1)).1 = ((a_W (a_s r) (a_l r) n j).1 ||| 2 ^ a_P (a_s r) (a_l r) n j (a_W (a_s r) (a_l r) n j).1) := rfl
      have e2 : (a_W (a_s r) (a_l r) n (j + 1)).2 = a_P (a_s r) (a_l r) n j (a_W (a_s r) (a_l r) n j).1 := rfl
      rw [e1, e2]
      generalize (a_W (a_s r) (a_l r) n j).1 = tk at *
      have hf : n - j ≤ a_fr tk := by omega
      obtain ⟨q1, q2, q3, q4⟩ := a_P_s (a_s r) (a_l r) n j tk hsp hli (by omega) hf
      have ff := k_firstFor X (d + 6) J T r n m j tk h' ⟨σ, π, p3⟩ (by omega) w2 hf
      have hh := k_harmOn X (d + 9) J T r n m (a_P (a_s r) (a_l r) n j tk) j h' q1 (by omega)
      rw [(ho.2.2.2 _ q1).1, (ho.2.2.1 j (by omega)).1, pk_mul] at hh
      have e3 := a_or tk (a_P (a_s r) (a_l r) n j tk) q1
      have b2 := a_F_k (a_s r) (a_l r) n j tk hn
      generalize a_P (a_s r) (a_l r) n j tk = P at *
      have e4 : nI (a_F (a_s r) (a_l r) n j tk) - nI (a_l r P * a_s r j) = nI (a_F (a_s r) (a_l r) n (j + 1) (tk ||| 2 ^ P)) := by
        rw [pk_sub (by omega)]
        congr 1
        omega
      rw [e_X8_arrangedPlaceOf_132_13]
      simp (disch := omega) only [e_X8_arrangedPlaceOf_132, e_X8_arrangedPlaceOf_132_2, k_X8_arrangedPlaceOf_132_2, e_X8_arrangedPlaceOf_132_6, k_X8_arrangedPlaceOf_132_6, e_X8_arrangedPlaceOf_132_21, k_X8_arrangedPlaceOf_132_21, e_X8_arrangedPlaceOf_132_32, k_X8_arrangedPlaceOf_132_32, ff, hh, e3, e4, q_bd_l, z_ltT, z_ltF, z_eqT, z_eqF, z_ltlT, z_ltlF, z_lltT, z_lltF, z_eqlT, z_eqlF, z_in, z_k7, z_cl, z_lneg, z_llT, z_llF, z_s1, z_nI_cl, z_nlt0, z_ne_m1, z_b0, z_b1, z_la, z_al, z_lm, z_ml, z_nm, nI_add, pk_mul, ↓reduceIte, not_true_eq_false, not_false_eq_true, true_or, or_true, false_or, or_false, true_and, and_true, and_false, false_and, Classical.not_not, Nat.add_zero, z_01, z_em, z_bit_p, Nat.not_le, Nat.not_lt, reduceCtorEq, if_true, if_false]
    have all : ∀ j, j ≤ jar + 1 → ∃ v4, c_X8_arrangedPlaceOf_132_13 X (d + 10) (nI jar) (nI (a_F (a_s r) (a_l r) n 0 0)) 0 (-1) 0 J T = c_X8_arrangedPlaceOf_132_13 X (d + 10) (nI jar) (nI (a_F (a_s r) (a_l r) n j (a_W (a_s r) (a_l r) n j).1)) (nI (a_W (a_s r) (a_l r) n j).1) v4 (nI j) J T ∧ (0 < j → v4 = nI (a_W (a_s r) (a_l r) n j).2) := by
      intro j
      induction j with
      | zero => intro _; exact ⟨-1, rfl, fun h => by omega⟩
      | succ j ih =>
        intro hj
        obtain ⟨v4, i1, i2⟩ := ih (by omega)
        exact ⟨_, i1.trans (st j (by omega) v4), fun _ => rfl⟩
    obtain ⟨v4, a1, a2⟩ := all (jar + 1) (Nat.le_refl _)
    have a2 := a2 (by omega)
    subst a2
    have a3 : c_X8_arrangedPlaceOf_132_13 X (d + 10) (nI jar) (nI (a_F (a_s r) (a_l r) n 0 0)) 0 (-1) 0 J T = z_r (nI (a_W (a_s r) (a_l r) n (jar + 1)).2) J T := by
      rw [a1, e_X8_arrangedPlaceOf_132_13, if_pos (nI_lt (by omega) (by omega))]
    unfold R_arr
    rw [if_neg (by rw [z_ne_m1 jar (by omega)]; exact id), z_nI_cl _ (by omega), e_X11_arranged_0]
    simp (disch := omega) only [e_X11_arranged_0, e_X11_arranged_0_6, k_X11_arranged_0_6, e_X11_arranged_0_10, k_X11_arranged_0_10, e_X11_arranged_0_14, k_X11_arranged_0_14, e_X8_arrangedPlaceOf_132, e_X8_arrangedPlaceOf_132_2, k_X8_arrangedPlaceOf_132_2, e_X8_arrangedPlaceOf_132_6, k_X8_arrangedPlaceOf_132_6, e_X8_arrangedPlaceOf_132_21, k_X8_arrangedPlaceOf_132_21, e_X8_arrangedPlaceOf_132_32, k_X8_arrangedPlaceOf_132_32, p1, lf', a3, k_needJar1 X _ I T n jar (k_n3 h) hn hj, q_bd_l, z_ltT, z_ltF, z_eqT, z_eqF, z_ltlT, z_ltlF, z_lltT, z_lltF, z_eqlT, z_eqlF, z_in, z_k7, z_cl, z_lneg, z_llT, z_llF, z_s1, z_nI_cl, z_nlt0, z_ne_m1, z_b0, z_b1, z_la, z_al, z_lm, z_ml, z_nm, nI_add, pk_mul, ↓reduceIte, not_true_eq_false, not_false_eq_true, true_or, or_true, false_or, or_false, true_and, and_true, and_false, false_and, Classical.not_not, Nat.add_zero, z_01, z_em, z_bit_p, Nat.not_le, Nat.not_lt, reduceCtorEq, if_true, if_false]
theorem k_Xarranged0 (X : Sx) (d : Nat) (I : Ii) (T : Tt) (n : Nat) (v : Int32) (h3 : I 3 0 = nI n) (hv : z_no v n) (hm : v ≠ -1) : c_X11_arranged_0 X (d + 12) v I T = z_x 2 I T := by
  rw [e_X11_arranged_0, if_neg hm, k_needJar0 X _ v I T n h3 hv, z_x_bd]
