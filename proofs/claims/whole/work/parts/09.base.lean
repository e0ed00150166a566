/-! ===== BASE OF THE PURE PART: numbers, stores, ends, loops ===== -/
abbrev Ii : Type := Nat → Nat → Int32
theorem z_lit (n : Nat) : (OfNat.ofNat n : Int32) = nI n := rfl
theorem z_m1 : (-1 : Int32) = -nI 1 := rfl
theorem z_s1 (n : Nat) : nI n + (1 : Int32) = nI (n + 1) := nI_1 n
/-- 0 to m -/
def z_le (x : Int32) (m : Nat) : Prop := ∃ k, k ≤ m ∧ x = nI k
theorem z_le_w {x : Int32} {m n : Nat} (h : z_le x m) (hm : m ≤ n) : z_le x n := by
  obtain ⟨k, h1, h2⟩ := h
  exact ⟨k, Nat.le_trans h1 hm, h2⟩
theorem z_le_nI {k m : Nat} (h : k ≤ m) : z_le (nI k) m := ⟨k, h, rfl⟩
theorem z_nI_cl (k : Nat) (h : k < 2147483648) : (nI k).toNatClampNeg = k := nI_clamp h
theorem z_nI_lt (a b : Nat) (ha : a < 2147483648) (hb : b < 2147483648) : (nI a < nI b) = (a < b) := propext (nI_ltI ha hb)
theorem z_nI_le (a b : Nat) (ha : a < 2147483648) (hb : b < 2147483648) : (nI a ≤ nI b) = (a ≤ b) := propext (nI_leI ha hb)
theorem z_nI_eq (a b : Nat) (ha : a < 2147483648) (hb : b < 2147483648) : (nI a = nI b) = (a = b) := propext (nI_eq ha hb)
theorem z_lt_l (a b : Nat) (ha : a < 2147483648) (hb : b < 2147483648) : (nI a < (no_index (OfNat.ofNat b) : Int32)) = (a < b) := z_nI_lt a b ha hb
theorem z_l_lt (a b : Nat) (ha : a < 2147483648) (hb : b < 2147483648) : ((no_index (OfNat.ofNat a) : Int32) < nI b) = (a < b) := z_nI_lt a b ha hb
theorem z_eq_l (a b : Nat) (ha : a < 2147483648) (hb : b < 2147483648) : (nI a = (no_index (OfNat.ofNat b) : Int32)) = (a = b) := z_nI_eq a b ha hb
theorem z_out (k n : Nat) (h : k < 2147483648) : q_out (nI k) n = (n ≤ k) := by
  have h1 : ¬ nI k < 0 := nI_pos h
  have h2 : (nI k).toNatClampNeg = k := nI_clamp h
  simp only [q_out, h1, h2, false_or]
theorem z_nlt0 (k : Nat) (h : k < 2147483648) : (nI k < 0) = False := eq_false (nI_pos h)
theorem z_ne_m1 (k : Nat) (h : k < 2147483648) : (nI k = -1) = False := by
  refine eq_false (fun e => ?_)
  have := nI_pos h
  rw [e] at this
  exact this (by decide)
/-- what is below 0, or a number -/
theorem z_cases (x : Int32) (n : Nat) (hn : n < 2147483648) : x < 0 ∨ nI n ≤ x ∨ ∃ j, j < n ∧ x = nI j := pk_ix x hn
-- the store
theorem z_w (I : Ii) (a k : Nat) (v : Int32) (b j : Nat) : q_w I a k v b j = if b = a ∧ j = k then v else I b j := by
  unfold q_w va_up
  by_cases h : b = a
  · subst h
    by_cases h2 : j = k <;> simp [h2]
  · simp [h]
theorem z_w_a (I : Ii) (a k : Nat) (v : Int32) (b : Nat) (h : b ≠ a) : q_w I a k v b = I b := by
  unfold q_w va_up
  simp [h]
theorem z_w_k (I : Ii) (a k : Nat) (v : Int32) (j : Nat) (h : j ≠ k) : q_w I a k v a j = I a j := by
  unfold q_w va_up
  simp [h]
theorem z_w_s (I : Ii) (a k : Nat) (v : Int32) : q_w I a k v a k = v := by
  unfold q_w va_up
  simp
theorem z_y_a (I : Ii) (a sp b dp n c : Nat) (h : c ≠ b) : q_y I a sp b dp n c = I c := by
  unfold q_y va_up
  simp [h]
theorem z_y_in (I : Ii) (a b n j : Nat) (h : j < n) : q_y I a 0 b 0 n b j = I a j := by
  unfold q_y va_up va_cpy
  simp [h]
theorem z_y_out (I : Ii) (a b n j : Nat) (h : n ≤ j) : q_y I a 0 b 0 n b j = I b j := by
  unfold q_y va_up va_cpy
  simp [Nat.not_lt.mpr h]
/-- nothing has changed but where P says so -/
def z_fr (P : Nat → Nat → Bool) (I J : Ii) : Prop := ∀ a k, P a k = false → J a k = I a k
theorem z_fr_r (P : Nat → Nat → Bool) (I : Ii) : z_fr P I I := fun _ _ _ => rfl
theorem z_fr_t {P : Nat → Nat → Bool} {I J K : Ii} (h1 : z_fr P I J) (h2 : z_fr P J K) : z_fr P I K := fun a k h => (h2 a k h).trans (h1 a k h)
theorem z_fr_m {P Q : Nat → Nat → Bool} {I J : Ii} (h : z_fr P I J) (hm : ∀ a k, P a k = true → Q a k = true) : z_fr Q I J := by
  intro a k hq
  refine h a k ?_
  cases hp : P a k
  · rfl
  · rw [hm a k hp] at hq; cases hq
theorem z_fr_w {P : Nat → Nat → Bool} {I J : Ii} (h : z_fr P I J) (a k : Nat) (v : Int32) (hp : P a k = true) : z_fr P I (q_w J a k v) := by
  intro b j hb
  rw [z_w]
  by_cases e : b = a ∧ j = k
  · obtain ⟨e1, e2⟩ := e
    subst e1 e2
    rw [hp] at hb; cases hb
  · rw [if_neg e]; exact h b j hb
/-- an end with an int, without one -/
def z_I (T : Tt) (Q : Int32 → Ii → Prop) (r : Rs) : Prop := ∃ v J, r = some (.inl (some (.int v)), (q_Z0, J, T)) ∧ Q v J
def z_V (T : Tt) (Q : Ii → Prop) (r : Rs) : Prop := ∃ J, r = some (.inl none, (q_Z0, J, T)) ∧ Q J
theorem z_bI {T : Tt} {P : Int32 → Ii → Prop} {r : Rs} {k : Option Value → Hp → Rs} {G : Rs → Prop} (h : z_I T P r) (hk : ∀ v J, P v J → G (k (some (.int v)) (q_Z0, J, T))) : G (q_bd r k) := by
  obtain ⟨v, J, rfl, hP⟩ := h
  exact hk v J hP
theorem z_bV {T : Tt} {P : Ii → Prop} {r : Rs} {k : Option Value → Hp → Rs} {G : Rs → Prop} (h : z_V T P r) (hk : ∀ J, P J → G (k none (q_Z0, J, T))) : G (q_bd r k) := by
  obtain ⟨J, rfl, hP⟩ := h
  exact hk J hP
theorem z_I_m {T : Tt} {P Q : Int32 → Ii → Prop} {r : Rs} (h : z_I T P r) (hm : ∀ v J, P v J → Q v J) : z_I T Q r := by
  obtain ⟨v, J, h1, h2⟩ := h
  exact ⟨v, J, h1, hm v J h2⟩
theorem z_V_m {T : Tt} {P Q : Ii → Prop} {r : Rs} (h : z_V T P r) (hm : ∀ J, P J → Q J) : z_V T Q r := by
  obtain ⟨J, h1, h2⟩ := h
  exact ⟨J, h1, hm J h2⟩
/-- a loop: 'P' its invariant, 'Q' what comes of it -/
theorem z_loop {α : Type} (F : Nat → α → Rs) (P : Nat → α → Prop) (Q : Rs → Prop) (n : Nat) (hs : ∀ k a, k < n → P k a → (∀ b, P (k + 1) b → Q (F (k + 1) b)) → Q (F k a)) (he : ∀ a, P n a → Q (F n a)) : ∀ k a, k ≤ n → P k a → Q (F k a) := by
  have key : ∀ m k a, k + m = n → P k a → Q (F k a) := by
    intro m
    induction m with
    | zero => intro k a h hP; cases h; exact he a hP
    | succ m ih => intro k a h hP; exact hs k a (by omega) hP (fun b hb => ih (k + 1) b (by omega) hb)
  intro k a h hP
  exact key (n - k) k a (by omega) hP
/-- gone through so often -/
def z_it {α : Type} (s : Nat → α → α) : Nat → α → α
  | 0, a => a
  | n + 1, a => s n (z_it s n a)
theorem z_it_c {α : Type} {s t : Nat → α → α} : ∀ {n : Nat} {a : α}, (∀ k a, k < n → s k a = t k a) → z_it s n a = z_it t n a
  | 0, _, _ => rfl
  | n + 1, a, h => by
    show s n (z_it s n a) = t n (z_it t n a)
    rw [z_it_c (fun k a hk => h k a (Nat.lt_succ_of_lt hk)), h n _ (Nat.lt_succ_self n)]
/-- a loop that only counts: what it has come to -/
theorem z_for {α : Type} (F : Nat → α → Rs) (s : Nat → α → α) (n : Nat) (h : ∀ k a, k < n → F k a = F (k + 1) (s k a)) (a : α) : F 0 a = F n (z_it s n a) := by
  have key : ∀ k, k ≤ n → F 0 a = F k (z_it s k a) := by
    intro k
    induction k with
    | zero => intro _; rfl
    | succ k ih => intro hk; rw [ih (by omega), h k _ (by omega)]; rfl
  exact key n (Nat.le_refl n)
/-- the same, with what holds at each step -/
theorem z_forP {α : Type} (F : Nat → α → Rs) (s : Nat → α → α) (P : Nat → α → Prop) (n : Nat) (h : ∀ k a, k < n → P k a → F k a = F (k + 1) (s k a) ∧ P (k + 1) (s k a)) (a : α) (h0 : P 0 a) : F 0 a = F n (z_it s n a) ∧ P n (z_it s n a) := by
  have key : ∀ k, k ≤ n → F 0 a = F k (z_it s k a) ∧ P k (z_it s k a) := by
    intro k
    induction k with
    | zero => intro _; exact ⟨rfl, h0⟩
    | succ k ih =>
      intro hk
      obtain ⟨h1, h2⟩ := ih (by omega)
      obtain ⟨h3, h4⟩ := h k _ (by omega) h2
      exact ⟨h1.trans h3, h4⟩
  exact key n (Nat.le_refl n)
/-- a truth as a number -/
def z_b (c : Prop) [Decidable c] : Int32 := if c then 1 else 0
theorem z_b_01 (c : Prop) [Decidable c] : z_b c = 0 ∨ z_b c = 1 := by
  unfold z_b; split <;> simp
theorem z_b0 (c : Prop) [Decidable c] : (z_b c = 0) = ¬ c := by
  unfold z_b; by_cases h : c <;> simp [h]
theorem z_b1 (c : Prop) [Decidable c] : (z_b c = 1) = c := by
  unfold z_b; by_cases h : c <;> simp [h]
theorem z_la (a b : Nat) : (no_index (OfNat.ofNat a) : Int32) + nI b = nI (OfNat.ofNat a + b) := nI_add a b
theorem z_al (a b : Nat) : nI a + (no_index (OfNat.ofNat b) : Int32) = nI (a + OfNat.ofNat b) := nI_add a b
theorem z_lm (a b : Nat) : (no_index (OfNat.ofNat a) : Int32) * nI b = nI (OfNat.ofNat a * b) := pk_mul a b
theorem z_ml (a b : Nat) : nI a * (no_index (OfNat.ofNat b) : Int32) = nI (a * OfNat.ofNat b) := pk_mul a b
theorem z_nm (a b : Nat) (h : OfNat.ofNat b ≤ a) : nI a - (no_index (OfNat.ofNat b) : Int32) = nI (a - OfNat.ofNat b) := pk_sub h
theorem z_01 : ((0 : Int32) < 1) = True ∧ ((0 : Int32) < 2) = True ∧ ((0 : Int32) < 3) = True ∧ ((0 : Int32) < 0) = False ∧ ((1 : Int32) = 0) = False ∧ ((0 : Int32) = 1) = False ∧ ((0 : Int32) = 0) = True ∧ ((1 : Int32) = 1) = True ∧ ((-1 : Int32) = -1) = True ∧ ((2 : Int32) = 0) = False ∧ ((-1 : Int32) < 0) = True ∧ ((0 : Int32) = -1) = False ∧ ((1 : Int32) = -1) = False := by decide
abbrev z_r (v : Int32) (I : Ii) (T : Tt) : Rs := some (.inl (some (.int v)), (q_Z0, I, T))
abbrev z_v (I : Ii) (T : Tt) : Rs := some (.inl none, (q_Z0, I, T))
theorem z_em (c : Prop) : (¬ c ∨ c) = True := eq_true (Or.comm.mp (Classical.em c))
/-- a bit -/
def z_bit (s : Int32) (k : Nat) : Bool := decide (((s >>> (nI k &&& 31)) &&& (1 : Int32)) = (1 : Int32))
theorem z_bit_p (s : Int32) (k : Nat) : (((s >>> (nI k &&& 31)) &&& (1 : Int32)) = (1 : Int32)) = (z_bit s k = true) := by
  unfold z_bit; rw [decide_eq_true_eq]
theorem z_in (k n : Nat) (h : k < n) (h2 : k < 2147483648) : q_out (nI k) n = False := by
  rw [z_out k n h2]
  exact eq_false (by omega)
theorem z_ltT (a b : Nat) (h : a < b) (hb : b < 2147483648) : (nI a < nI b) = True := eq_true (nI_lt h hb)
theorem z_ltF (a b : Nat) (h : b ≤ a) (hb : a < 2147483648) : (nI a < nI b) = False := eq_false (nI_nlt h hb)
theorem z_eqT (a b : Nat) (h : a = b) : (nI a = nI b) = True := by subst h; exact eq_true rfl
theorem z_eqF (a b : Nat) (h : a ≠ b) (ha : a < 2147483648) (hb : b < 2147483648) : (nI a = nI b) = False := by
  rw [z_nI_eq a b ha hb]; exact eq_false h
theorem z_ltlT (a b : Nat) (h : a < OfNat.ofNat b) (hb : OfNat.ofNat b < 2147483648) : (nI a < (no_index (OfNat.ofNat b) : Int32)) = True := z_ltT a b h hb
theorem z_ltlF (a b : Nat) (h : OfNat.ofNat b ≤ a) (hb : a < 2147483648) : (nI a < (no_index (OfNat.ofNat b) : Int32)) = False := z_ltF a b h hb
theorem z_lltT (a b : Nat) (h : OfNat.ofNat a < b) (hb : b < 2147483648) : ((no_index (OfNat.ofNat a) : Int32) < nI b) = True := z_ltT a b h hb
theorem z_lltF (a b : Nat) (h : b ≤ OfNat.ofNat a) (hb : OfNat.ofNat a < 2147483648) : ((no_index (OfNat.ofNat a) : Int32) < nI b) = False := z_ltF a b h hb
theorem z_eqlT (a b : Nat) (h : a = OfNat.ofNat b) : (nI a = (no_index (OfNat.ofNat b) : Int32)) = True := z_eqT a b h
theorem z_eqlF (a b : Nat) (h : a ≠ OfNat.ofNat b) (ha : a < 2147483648) (hb : OfNat.ofNat b < 2147483648) : (nI a = (no_index (OfNat.ofNat b) : Int32)) = False := z_eqF a b h ha hb
theorem z_cl (a : Nat) (h : OfNat.ofNat a < 2147483648) : (no_index (OfNat.ofNat a) : Int32).toNatClampNeg = OfNat.ofNat a := nI_clamp h
theorem z_k7 (a n : Nat) (h : OfNat.ofNat a < n) (h2 : OfNat.ofNat a < 2147483648) : q_out (no_index (OfNat.ofNat a) : Int32) n = False := z_in a n h h2
theorem z_lneg (a : Nat) (h : OfNat.ofNat a < 2147483648) : ((no_index (OfNat.ofNat a) : Int32) = -1) = False := z_ne_m1 a h
theorem z_llT (a b : Nat) (h : (OfNat.ofNat a : Nat) < OfNat.ofNat b) (hb : (OfNat.ofNat b : Nat) < 2147483648) : ((no_index (OfNat.ofNat a) : Int32) < (no_index (OfNat.ofNat b) : Int32)) = True := z_ltT a b h hb
theorem z_llF (a b : Nat) (h : (OfNat.ofNat b : Nat) ≤ OfNat.ofNat a) (hb : (OfNat.ofNat a : Nat) < 2147483648) : ((no_index (OfNat.ofNat a) : Int32) < (no_index (OfNat.ofNat b) : Int32)) = False := z_ltF a b h hb
