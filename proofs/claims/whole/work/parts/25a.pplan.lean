/-! ===== PURE: needs that are met, by Hall's counts ===== -/
theorem b_dl (n x c : Nat) : a_sm n (fun j => if j = x then c else 0) = if x < n then c else 0 := by
  induction n with
  | zero => rfl
  | succ n ih =>
    show a_sm n (fun j => if j = x then c else 0) + (if n = x then c else 0) = _
    rw [ih]
    by_cases h : n = x
    · subst h; simp
    · have : (x < n + 1) = (x < n) := propext ⟨fun h => by omega, fun h => by omega⟩
      rw [if_neg h]; simp only [this]; omega
theorem b_sm0 (n : Nat) : a_sm n (fun _ => 0) = 0 := by
  induction n with
  | zero => rfl
  | succ n ih => show a_sm n (fun _ => 0) + 0 = 0; rw [ih]
/-- counted by jars -/
theorem b_dc (S C : Nat → Bool) (f : Nat → Nat) (n : Nat) : ∀ m a, a_c (fun k => S k && (decide (f k < n) && C (f k))) a m = a_sm n (fun j => if C j then a_c (fun k => S k && decide (f k = j)) a m else 0)
  | 0, a => by
    rw [a_sm_c (g := fun _ => 0) (fun i _ => by split <;> rfl), b_sm0]; rfl
  | m + 1, a => by
    show (if (S a && (decide (f a < n) && C (f a))) = true then 1 else 0) + a_c _ (a + 1) m = _
    rw [b_dc S C f n m (a + 1)]
    rw [a_sm_c (n := n) (f := fun j => if C j then a_c (fun k => S k && decide (f k = j)) a (m + 1) else 0) (g := fun j => (if j = f a then (if S a && C (f a) then 1 else 0) else 0) + (if C j then a_c (fun k => S k && decide (f k = j)) (a + 1) m else 0)) (fun j _ => ?_), a_sm_add, b_dl]
    · congr 1
      by_cases h : f a < n <;> cases S a <;> cases C (f a) <;> simp [h]
    · show (if C j then (if (S a && decide (f a = j)) = true then 1 else 0) + a_c (fun k => S k && decide (f k = j)) (a + 1) m else 0) = _
      by_cases h : j = f a
      · subst h; cases C (f a) <;> cases S a <;> simp
      · have : ¬ f a = j := fun e => h e.symm
        rw [if_neg h]; cases C j <;> simp [this]
/-- needs that can be met together -/
def b_M (A : Nat → Nat → Bool) (s : Nat → Nat) (n m : Nat) (S : Nat → Bool) : Prop := ∃ f : Nat → Nat, (∀ k, k < m → S k = true → f k < n ∧ A k (f k) = true) ∧ ∀ j, j < n → a_c (fun k => S k && decide (f k = j)) 0 m ≤ s j
/-- a state: 'b k' is need k's jar, one from n on none; each jar has spoons enough -/
def b_V (A : Nat → Nat → Bool) (s : Nat → Nat) (n m : Nat) (b : Nat → Nat) : Prop := (∀ k, k < m → b k < n → A k (b k) = true) ∧ ∀ j, j < n → a_c (fun k => decide (b k = j)) 0 m ≤ s j
def b_G (n : Nat) (b : Nat → Nat) (k : Nat) : Bool := decide (b k < n)
theorem b_V_M {A : Nat → Nat → Bool} {s : Nat → Nat} {n m : Nat} {b : Nat → Nat} (h : b_V A s n m b) : b_M A s n m (b_G n b) := by
  refine ⟨b, fun k hk hs => ?_, fun j hj => ?_⟩
  · have : b k < n := by simpa [b_G] using hs
    exact ⟨this, h.1 k hk this⟩
  · refine Nat.le_trans (a_c_le (fun i _ _ hi => ?_)) (h.2 j hj)
    simp at hi ⊢; exact hi.2
theorem b_M_m {A : Nat → Nat → Bool} {s : Nat → Nat} {n m : Nat} {S S' : Nat → Bool} (h : b_M A s n m S) (hs : ∀ k, k < m → S' k = true → S k = true) : b_M A s n m S' := by
  obtain ⟨f, h1, h2⟩ := h
  refine ⟨f, fun k hk hk2 => h1 k hk (hs k hk hk2), fun j hj => Nat.le_trans (a_c_le (fun i _ hi h3 => ?_)) (h2 j hj)⟩
  simp at h3 ⊢
  exact ⟨hs i (by omega) h3.1, h3.2⟩
/-- too few spoons -/
theorem b_hall {A : Nat → Nat → Bool} {s : Nat → Nat} {n m : Nat} {S K C : Nat → Bool} (hK : ∀ k, k < m → K k = true → S k = true ∧ ∀ j, j < n → A k j = true → C j = true) (hc : a_sm n (fun j => if C j then s j else 0) < a_c K 0 m) : ¬ b_M A s n m S := by
  intro ⟨f, h1, h2⟩
  have e1 : a_c K 0 m ≤ a_c (fun k => S k && (decide (f k < n) && C (f k))) 0 m := a_c_le (fun k _ hk hk2 => by
    obtain ⟨h3, h4⟩ := hK k (by omega) hk2
    obtain ⟨h5, h6⟩ := h1 k (by omega) h3
    simp [h3, h5, h4 _ h5 h6])
  rw [b_dc] at e1
  have e2 : a_sm n (fun j => if C j then a_c (fun k => S k && decide (f k = j)) 0 m else 0) ≤ a_sm n (fun j => if C j then s j else 0) := a_sm_le (fun j hj => by
    split
    · exact h2 j hj
    · exact Nat.le_refl _)
  omega
/-- jars that are full of needs that can go nowhere else -/
def b_cl (A : Nat → Nat → Bool) (s : Nat → Nat) (n m : Nat) (b : Nat → Nat) (C : Nat → Bool) (j : Nat) : Prop := a_c (fun k => decide (b k = j)) 0 m = s j ∧ ∀ o, o < m → b o = j → ∀ i, i < n → A o i = true → C i = true
theorem b_sC {s : Nat → Nat} {n m : Nat} {b : Nat → Nat} {C : Nat → Bool} (h : ∀ j, j < n → C j = true → a_c (fun k => decide (b k = j)) 0 m = s j) : a_sm n (fun j => if C j then s j else 0) = a_c (fun k => decide (b k < n) && C (b k)) 0 m := by
  have := b_dc (fun _ => true) C b n m 0
  simp only [Bool.true_and] at this
  rw [this]
  exact a_sm_c (fun j hj => by
    cases hc : C j
    · rfl
    · simp only [if_true]; exact (h j hj hc).symm)
theorem b_no {A : Nat → Nat → Bool} {s : Nat → Nat} {n m : Nat} {b : Nat → Nat} {C S : Nat → Bool} {k : Nat} (hk : k < m) (hb : ¬ b k < n) (hS : S k = true) (hS2 : ∀ o, o < m → b o < n → S o = true) (h1 : ∀ j, j < n → A k j = true → C j = true) (h2 : ∀ j, j < n → C j = true → b_cl A s n m b C j) : ¬ b_M A s n m S := by
  refine b_hall (K := fun o => decide (o = k) || (decide (b o < n) && C (b o))) (C := C) (fun o ho hK => ?_) ?_
  · by_cases e : o = k
    · subst e; exact ⟨hS, h1⟩
    · simp [e] at hK
      exact ⟨hS2 o ho hK.1, (h2 _ hK.1 hK.2).2 o ho rfl⟩
  · rw [b_sC (fun j hj hc => (h2 j hj hc).1)]
    have := a_c_p (P := fun o => decide (o = k) || (decide (b o < n) && C (b o))) (Q := fun k => decide (b k < n) && C (b k)) (a := 0) (m := m) (x := k) (by omega) (by omega) (by simp) (by simp [hb]) (fun i _ _ hi => by simp [hi])
    omega
/-- no more of them than they are -/
theorem b_eqs {P Q : Nat → Bool} {m : Nat} (h : ∀ k, k < m → P k = true → Q k = true) (hc : a_c Q 0 m ≤ a_c P 0 m) : ∀ k, k < m → Q k = true → P k = true := by
  intro k hk hq
  apply Classical.byContradiction
  intro hp
  have hp : P k = false := Bool.eq_false_iff.mpr hp
  have h1 : a_c P 0 m ≤ a_c (fun i => Q i && !decide (i = k)) 0 m := a_c_le (fun i _ hi h2 => by
    have : ¬ i = k := fun e => by subst e; rw [hp] at h2; cases h2
    simp [h i (by omega) h2, this])
  have h2 := a_c_p (P := Q) (Q := fun i => Q i && !decide (i = k)) (a := 0) (m := m) (x := k) (by omega) (by omega) hq (by simp) (fun i _ _ hi => by simp [hi])
  omega
theorem b_sme {n : Nat} {f g : Nat → Nat} (h : ∀ i, i < n → f i ≤ g i) (hs : a_sm n g ≤ a_sm n f) : ∀ i, i < n → f i = g i := by
  induction n with
  | zero => intro i hi; omega
  | succ n ih =>
    have h1 : a_sm n f ≤ a_sm n g := a_sm_le (fun i hi => h i (by omega))
    have h2 := h n (by omega)
    have h3 : a_sm n g + g n ≤ a_sm n f + f n := hs
    intro i hi
    rcases Nat.eq_or_lt_of_le (Nat.lt_succ_iff.mp hi) with rfl | h4
    · omega
    · exact ih (fun i hi => h i (by omega)) (by omega) i h4
/-- closed jars stay closed when all that were met are met again -/
theorem b_stay {A : Nat → Nat → Bool} {s : Nat → Nat} {n m : Nat} {b b' : Nat → Nat} {C : Nat → Bool} (hv : b_V A s n m b') (hk : ∀ o, o < m → b o < n → b' o < n) (h2 : ∀ j, j < n → C j = true → b_cl A s n m b C j) : (∀ j, j < n → C j = true → b_cl A s n m b' C j) ∧ ∀ o, o < m → b' o < n → C (b' o) = true → b o < n ∧ C (b o) = true := by
  have e1 := b_sC (fun j hj hc => (h2 j hj hc).1)
  have h3 : ∀ o, o < m → (decide (b o < n) && C (b o)) = true → (decide (b' o < n) && C (b' o)) = true := by
    intro o ho h
    simp at h
    have h5 := hk o ho h.1
    have h6 := (h2 _ h.1 h.2).2 o ho rfl _ h5 (hv.1 o ho h5)
    simp [h5, h6]
  have e2 := b_dc (fun _ => true) C b' n m 0
  simp only [Bool.true_and] at e2
  have l1 : a_c (fun k => decide (b k < n) && C (b k)) 0 m ≤ a_c (fun k => decide (b' k < n) && C (b' k)) 0 m := a_c_le (fun i _ hi h => h3 i (by omega) h)
  have l2 : ∀ j, j < n → (if C j then a_c (fun k => decide (b' k = j)) 0 m else 0) ≤ (if C j then s j else 0) := fun j hj => by
    split
    · exact hv.2 j hj
    · exact Nat.le_refl _
  have l3 := a_sm_le l2
  have e3 := b_sme l2 (by omega)
  have e4 := b_eqs h3 (by omega)
  have e5 : ∀ o, o < m → b' o < n → C (b' o) = true → b o < n ∧ C (b o) = true := fun o ho h5 h6 => by
    have := e4 o ho (by simp [h5, h6])
    simpa using this
  refine ⟨fun j hj hc => ⟨?_, fun o ho hb i hi ha => ?_⟩, e5⟩
  · have := e3 j hj
    rw [hc] at this
    exact this
  · subst hb
    obtain ⟨h7, h8⟩ := e5 o ho hj hc
    exact (h2 _ h7 h8).2 o ho rfl i hi ha
/-- the needs before k: none was refused but for closed jars -/
theorem b_dom {A : Nat → Nat → Bool} {s : Nat → Nat} {n m k : Nat} {b : Nat → Nat} {C S : Nat → Bool} (hk : k ≤ m) (hb : ∀ o, k ≤ o → o < m → ¬ b o < n) (h2 : ∀ j, j < n → C j = true → b_cl A s n m b C j) (h3 : ∀ o, o < k → ¬ b o < n → ∀ j, j < n → A o j = true → C j = true) (hM : b_M A s n m S) : a_c S 0 k ≤ a_c (b_G n b) 0 k := by
  obtain ⟨f, f1, f2⟩ := hM
  have cut : ∀ P : Nat → Bool, a_c P 0 m = a_c P 0 k + a_c P (0 + k) (m - k) := fun P => by
    rw [← a_c_s, show k + (m - k) = m from by omega]
  have sp : ∀ P Q : Nat → Bool, a_c P 0 k = a_c (fun i => P i && Q i) 0 k + a_c (fun i => P i && !Q i) 0 k := by
    intro P Q
    have : ∀ m a, a_c P a m = a_c (fun i => P i && Q i) a m + a_c (fun i => P i && !Q i) a m := by
      intro m
      induction m with
      | zero => intro a; rfl
      | succ m ih =>
        intro a
        show (if P a then 1 else 0) + a_c P (a + 1) m = (if (P a && Q a) = true then 1 else 0) + _ + ((if (P a && !Q a) = true then 1 else 0) + _)
        rw [ih (a + 1)]
        cases P a <;> cases Q a <;> simp <;> omega
    exact this k 0
  rw [sp S (fun i => C (f i)), sp (b_G n b) (fun i => C (b i))]
  have e1 := b_sC (fun j hj hc => (h2 j hj hc).1)
  have l1 : a_c (fun i => S i && C (f i)) 0 k ≤ a_sm n (fun j => if C j then s j else 0) := by
    have l2 : a_sm n (fun j => if C j then a_c (fun k => S k && decide (f k = j)) 0 m else 0) ≤ a_sm n (fun j => if C j then s j else 0) := a_sm_le (fun j hj => by
      split
      · exact f2 j hj
      · exact Nat.le_refl _)
    rw [← b_dc, cut] at l2
    have l3 : a_c (fun i => S i && C (f i)) 0 k ≤ a_c (fun k => S k && (decide (f k < n) && C (f k))) 0 k := a_c_le (fun i _ hi h => by
      simp at h ⊢
      exact ⟨h.1, (f1 i (by omega) h.1).1, h.2⟩)
    omega
  have l4 : a_c (fun i => S i && !C (f i)) 0 k ≤ a_c (fun i => b_G n b i && !C (b i)) 0 k := a_c_le (fun i _ hi h => by
    simp at h
    obtain ⟨f3, f4⟩ := f1 i (by omega) h.1
    have hi1 : b i < n := Classical.byContradiction (fun hn => by
      have := h3 i (by omega) hn _ f3 f4
      rw [h.2] at this; cases this)
    have hi2 : C (b i) = false := Bool.eq_false_iff.mpr (fun hc => by
      have := (h2 _ hi1 hc).2 i (by omega) rfl _ f3 f4
      rw [h.2] at this; cases this)
    simp [b_G, hi1, hi2])
  have e2 : a_c (fun k => decide (b k < n) && C (b k)) 0 m = a_c (fun i => b_G n b i && C (b i)) 0 k := by
    rw [cut, a_c_0 (a := 0 + k) (fun i h1 h4 => by simp [hb i (by omega) (by omega)])]
    rfl
  omega
/-- of sets with as many, the one that is ahead is the least -/
def b_v (P : Nat → Bool) : Nat → Nat
  | 0 => 0
  | n + 1 => b_v P n + (if P n then 2 ^ n else 0)
theorem b_v_lt (P : Nat → Bool) : ∀ n, b_v P n < 2 ^ n
  | 0 => Nat.one_pos
  | n + 1 => by
    have := b_v_lt P n
    show b_v P n + (if P n then 2 ^ n else 0) < 2 ^ (n + 1)
    rw [Nat.pow_succ]
    split <;> omega
theorem a_c_t (P : Nat → Bool) (n : Nat) : a_c P 0 (n + 1) = a_c P 0 n + (if P n then 1 else 0) := by
  rw [a_c_s P n 1 0, Nat.zero_add]; rfl
theorem b_min {G S : Nat → Bool} : ∀ n, (∀ k, k ≤ n → a_c S 0 k ≤ a_c G 0 k) → a_c S 0 n = a_c G 0 n → b_v G n ≤ b_v S n
  | 0, _, _ => Nat.le_refl _
  | n + 1, h, e => by
    rw [a_c_t, a_c_t] at e
    have h1 := h n (by omega)
    show b_v G n + (if G n then 2 ^ n else 0) ≤ b_v S n + (if S n then 2 ^ n else 0)
    have hv := b_v_lt G n
    cases hg : G n <;> cases hs : S n <;> rw [hg, hs] at e <;> simp at e ⊢
    · exact b_min n (fun k hk => h k (by omega)) e
    · omega
    · omega
    · exact b_min n (fun k hk => h k (by omega)) e
theorem b_v_t (P : Nat → Bool) : ∀ n k, (b_v P n).testBit k = (decide (k < n) && P k)
  | 0, k => by simp [b_v]
  | n + 1, k => by
    show (b_v P n + (if P n then 2 ^ n else 0)).testBit k = _
    have hv := b_v_lt P n
    cases hp : P n
    · simp only [Bool.false_eq_true, if_false, Nat.add_zero]
      rw [b_v_t P n k]
      by_cases h : k = n
      · subst h; simp [hp]
      · have : (k < n + 1) = (k < n) := propext ⟨fun h => by omega, fun h => by omega⟩
        simp only [this]
    · simp only [if_true]
      rw [Nat.add_comm, show 2 ^ n + b_v P n = 2 ^ n * 1 + b_v P n from by omega, Nat.two_pow_add_eq_or_of_lt hv, Nat.testBit_or, b_v_t P n k, Nat.mul_one, Nat.testBit_two_pow]
      by_cases h : k = n
      · subst h; simp [hp]
      · have : (k < n + 1) = (k < n) := propext ⟨fun h => by omega, fun h => by omega⟩
        have h2 : ¬ n = k := fun e => h e.symm
        simp [this, h2]
theorem b_v_e {x n : Nat} (hx : x < 2 ^ n) : b_v (fun k => x.testBit k) n = x := by
  apply Nat.eq_of_testBit_eq
  intro k
  rw [b_v_t]
  by_cases h : k < n
  · simp [h]
  · rw [Nat.testBit_lt_two_pow (Nat.lt_of_lt_of_le hx (Nat.pow_le_pow_right (by decide) (by omega)))]; simp
/-- the first of the largest sets that can be met -/
theorem b_best (M : Nat → Prop) [DecidablePred M] (m g : Nat) (hg : g < 2 ^ m) (hM : M g) (hd : ∀ x, x < 2 ^ m → M x → ∀ k, k ≤ m → a_c (fun i => x.testBit i) 0 k ≤ a_c (fun i => g.testBit i) 0 k) (h0 : M 0) : z_it (fun x f => if a_c (fun i => f.testBit i) 0 m < a_c (fun i => x.testBit i) 0 m ∧ M x then x else f) (2 ^ m) 0 = g := by
  have key : ∀ N, N ≤ 2 ^ m → M (z_it (fun x f => if a_c (fun i => f.testBit i) 0 m < a_c (fun i => x.testBit i) 0 m ∧ M x then x else f) N 0) ∧ z_it (fun x f => if a_c (fun i => f.testBit i) 0 m < a_c (fun i => x.testBit i) 0 m ∧ M x then x else f) N 0 < 2 ^ m ∧ (z_it (fun x f => if a_c (fun i => f.testBit i) 0 m < a_c (fun i => x.testBit i) 0 m ∧ M x then x else f) N 0 ≤ N) ∧ (g < N → z_it (fun x f => if a_c (fun i => f.testBit i) 0 m < a_c (fun i => x.testBit i) 0 m ∧ M x then x else f) N 0 = g) ∧ (0 < N → z_it (fun x f => if a_c (fun i => f.testBit i) 0 m < a_c (fun i => x.testBit i) 0 m ∧ M x then x else f) N 0 < N) := by
    intro N
    induction N with
    | zero => intro _; exact ⟨h0, Nat.two_pow_pos m, Nat.le_refl _, fun h => by omega, fun h => by omega⟩
    | succ N ih =>
      intro hN
      obtain ⟨i1, i2, i3, i4, i5⟩ := ih (by omega)
      have e : ∀ h : Nat → Nat → Nat, z_it h (N + 1) 0 = h N (z_it h N 0) := fun _ => rfl
      rw [e]
      generalize z_it (fun x f => if a_c (fun i => f.testBit i) 0 m < a_c (fun i => x.testBit i) 0 m ∧ M x then x else f) N 0 = f at i1 i2 i3 i4 i5
      by_cases c : a_c (fun i => f.testBit i) 0 m < a_c (fun i => N.testBit i) 0 m ∧ M N
      · rw [if_pos c]
        refine ⟨c.2, by omega, by omega, fun h => ?_, fun _ => by omega⟩
        by_cases h1 : g < N
        · have := i4 h1
          subst this
          have := hd N (by omega) c.2 m (Nat.le_refl _)
          omega
        · omega
      · rw [if_neg c]
        refine ⟨i1, i2, by omega, fun h => ?_, fun _ => ?_⟩
        · by_cases h1 : g < N
          · exact i4 h1
          · have h2 : g = N := by omega
            subst h2
            have h3 := hd f i2 i1 m (Nat.le_refl _)
            have h4 : a_c (fun i => f.testBit i) 0 m = a_c (fun i => g.testBit i) 0 m := by
              by_cases h5 : a_c (fun i => f.testBit i) 0 m < a_c (fun i => g.testBit i) 0 m
              · exact (c ⟨h5, hM⟩).elim
              · omega
            have h5 := b_min (G := fun i => g.testBit i) (S := fun i => f.testBit i) m (hd f i2 i1) h4
            rw [b_v_e hg, b_v_e i2] at h5
            by_cases h6 : 0 < g
            · have := i5 h6; omega
            · omega
        · by_cases h6 : 0 < N
          · have := i5 h6; omega
          · omega
  exact (key (2 ^ m) (Nat.le_refl _)).2.2.2.1 hg
/-! a need finds a jar: what has become of it -/
def b_n (m : Nat) (b : Nat → Nat) (j : Nat) : Nat := a_c (fun o => decide (b o = j)) 0 m
theorem b_n_u (m : Nat) (b : Nat → Nat) (k x j : Nat) (hk : k < m) : b_n m (a_u b k x) j + (if b k = j then 1 else 0) = b_n m b j + (if x = j then 1 else 0) := by
  unfold b_n
  have e : ∀ y, a_c (fun o => decide (a_u b k y o = j)) 0 m = a_c (fun o => decide (b o = j) && !decide (o = k)) 0 m + (if y = j then 1 else 0) := by
    intro y
    by_cases h : y = j
    · rw [if_pos h]
      refine a_c_p (x := k) (by omega) (by omega) (by simp [a_u, h]) (by simp) (fun i _ _ hi => by simp [a_u, hi])
    · rw [if_neg h, Nat.add_zero]
      refine a_c_c (fun i _ _ => ?_)
      by_cases hi : i = k
      · simp [a_u, hi, h]
      · simp [a_u, hi]
  have e2 : a_c (fun o => decide (b o = j)) 0 m = a_c (fun o => decide (a_u b k (b k) o = j)) 0 m := a_c_c (fun i _ _ => by
    by_cases hi : i = k
    · simp [a_u, hi]
    · simp [a_u, hi])
  rw [e x, e2, e (b k)]
  omega
/-- a state between: 'c' the spoons planned -/
def b_P (A : Nat → Nat → Bool) (s : Nat → Nat) (n m : Nat) (b c : Nat → Nat) : Prop := (∀ j, j < n → c j = b_n m b j) ∧ (∀ j, j < n → c j ≤ s j) ∧ ∀ o, o < m → b o < n → A o (b o) = true
/-- k has found one; of those with jars that were tried none was moved -/
def b_S (A : Nat → Nat → Bool) (s : Nat → Nat) (n m : Nat) (b : Nat → Nat) (k : Nat) (t : Nat → Bool) (b' c' : Nat → Nat) : Prop := (b' k < n ∧ A k (b' k) = true) ∧ (∀ o, o < m → o ≠ k → (¬ b o < n ∨ t (b o) = true) → b' o = b o) ∧ (∀ o, o < m → o ≠ k → b o < n → b' o < n ∧ A o (b' o) = true) ∧ (∀ j, j < n → c' j = b_n m b' j + (if b k = j then 1 else 0)) ∧ ∀ j, j < n → c' j ≤ s j
theorem b_S1 {A : Nat → Nat → Bool} {s : Nat → Nat} {n m : Nat} {b c : Nat → Nat} {k j : Nat} {t : Nat → Bool} (h : b_P A s n m b c) (hk : k < m) (hj : j < n) (ha : A k j = true) (hc : c j < s j) : b_S A s n m b k t (a_u b k j) (a_u c j (c j + 1)) := by
  obtain ⟨h1, h2, h3⟩ := h
  refine ⟨by simp only [a_u, if_pos]; exact ⟨hj, ha⟩, fun o _ ho _ => by simp [a_u, ho], fun o ho hne hb => by simp only [a_u, if_neg hne]; exact ⟨hb, h3 o ho hb⟩, fun i hi => ?_, fun i hi => ?_⟩
  · have e := b_n_u m b k j i hk
    have e2 := h1 i hi
    by_cases hij : i = j
    · subst hij
      simp only [a_u, if_pos]
      rw [if_pos rfl] at e
      omega
    · have : ¬ j = i := fun e => hij e.symm
      rw [if_neg this] at e
      have e3 : a_u c j (c j + 1) i = c i := by simp [a_u, hij]
      rw [e3]
      omega
  · by_cases hij : i = j
    · subst hij; simp only [a_u, if_pos]; omega
    · simp only [a_u, if_neg hij]; exact h2 i hi
theorem b_S2 {A : Nat → Nat → Bool} {s : Nat → Nat} {n m : Nat} {b b' c' : Nat → Nat} {k j o : Nat} {t t' : Nat → Bool} (hk : k < m) (hj : j < n) (ha : A k j = true) (hb : ¬ b k < n ∨ t (b k) = true) (hbo : b o = j) (htj : t j = false) (htt : ∀ i, t i = true → t' i = true) (h : b_S A s n m b o t' b' c') : b_S A s n m b k t (a_u b' k j) c' := by
  obtain ⟨h1, h2, h3, h4, h5⟩ := h
  have hne : k ≠ o := by
    intro e
    subst e
    rw [hbo] at hb
    rcases hb with hb | hb
    · exact hb hj
    · rw [htj] at hb; cases hb
  have hbk : b' k = b k := h2 k hk hne (hb.imp id (htt _))
  refine ⟨by simp only [a_u, if_pos]; exact ⟨hj, ha⟩, fun i hi hik hc => ?_, fun i hi hik hc => ?_, fun i hi => ?_, h5⟩
  · simp only [a_u, if_neg hik]
    have : i ≠ o := by
      intro e
      subst e
      rw [hbo, htj] at hc
      rcases hc with hc | hc
      · exact hc hj
      · cases hc
    exact h2 i hi this (hc.imp id (htt _))
  · simp only [a_u, if_neg hik]
    by_cases e : i = o
    · subst e; exact h1
    · exact h3 i hi e hc
  · have e := b_n_u m b' k j i hk
    rw [hbk] at e
    rw [h4 i hi, hbo]
    omega
/-- at the top: nothing tried, k without a jar -/
theorem b_S_P {A : Nat → Nat → Bool} {s : Nat → Nat} {n m : Nat} {b b' c' : Nat → Nat} {k : Nat} {t : Nat → Bool} (hb : ¬ b k < n) (h : b_S A s n m b k t b' c') : b_P A s n m b' c' ∧ b' k < n ∧ (∀ o, o < m → o ≠ k → ¬ b o < n → b' o = b o) ∧ ∀ o, o < m → o ≠ k → b o < n → b' o < n := by
  obtain ⟨h1, h2, h3, h4, h5⟩ := h
  refine ⟨⟨fun j hj => ?_, h5, fun o ho hbo => ?_⟩, h1.1, fun o ho hne hb => h2 o ho hne (.inl hb), fun o ho hne hb => (h3 o ho hne hb).1⟩
  · rw [h4 j hj, if_neg (by intro e; rw [e] at hb; exact hb hj)]; omega
  · by_cases e : o = k
    · subst e; exact h1.2
    · by_cases e2 : b o < n
      · exact (h3 o ho e e2).2
      · rw [h2 o ho e (.inl e2)] at hbo; exact (e2 hbo).elim
theorem b_P_V {A : Nat → Nat → Bool} {s : Nat → Nat} {n m : Nat} {b c : Nat → Nat} (h : b_P A s n m b c) : b_V A s n m b := ⟨h.2.2, fun j hj => by have := h.1 j hj; unfold b_n at this; rw [← this]; exact h.2.1 j hj⟩
/-- k finds none: jars that are full of needs that can go nowhere else -/
def b_X (A : Nat → Nat → Bool) (s : Nat → Nat) (n m : Nat) (b c : Nat → Nat) (t C : Nat → Bool) : Prop := ∀ j, j < n → C j = true → ¬ c j < s j ∧ ∀ o, o < m → b o = j → ∀ i, i < n → A o i = true → t i = true ∨ C i = true
theorem b_X_cl {A : Nat → Nat → Bool} {s : Nat → Nat} {n m : Nat} {b c : Nat → Nat} {C : Nat → Bool} (hP : b_P A s n m b c) (h : b_X A s n m b c (fun _ => false) C) : ∀ j, j < n → C j = true → b_cl A s n m b C j := by
  intro j hj hc
  obtain ⟨h1, h2⟩ := h j hj hc
  refine ⟨?_, fun o ho hb i hi ha => ?_⟩
  · have e1 := hP.1 j hj
    have e2 := hP.2.1 j hj
    unfold b_n at e1
    omega
  · rcases h2 o ho hb i hi ha with h | h
    · cases h
    · exact h
