/-! ===== PURE: sums, counts, the least harm by layers ===== -/
def a_sm : Nat → (Nat → Nat) → Nat
  | 0, _ => 0
  | n + 1, f => a_sm n f + f n
theorem a_sm_c : ∀ {n : Nat} {f g : Nat → Nat}, (∀ i, i < n → f i = g i) → a_sm n f = a_sm n g
  | 0, _, _, _ => rfl
  | n + 1, f, g, h => by
    show a_sm n f + f n = a_sm n g + g n
    rw [a_sm_c (fun i hi => h i (by omega)), h n (by omega)]
theorem a_sm_le : ∀ {n : Nat} {f g : Nat → Nat}, (∀ i, i < n → f i ≤ g i) → a_sm n f ≤ a_sm n g
  | 0, _, _, _ => Nat.le_refl _
  | n + 1, f, g, h => by
    show a_sm n f + f n ≤ a_sm n g + g n
    have := a_sm_le (n := n) (fun i hi => h i (by omega))
    have := h n (by omega)
    omega
theorem a_sm_add (n : Nat) (f g : Nat → Nat) : a_sm n (fun i => f i + g i) = a_sm n f + a_sm n g := by
  induction n with
  | zero => rfl
  | succ n ih => show a_sm n (fun i => f i + g i) + (f n + g n) = a_sm n f + f n + (a_sm n g + g n); rw [ih]; omega
theorem a_sm_if (n k c : Nat) : a_sm n (fun i => if i < k then c else 0) = (if n ≤ k then n else k) * c := by
  induction n with
  | zero => simp [a_sm]
  | succ n ih =>
    show a_sm n (fun i => if i < k then c else 0) + (if n < k then c else 0) = _
    rw [ih]
    by_cases h : n < k
    · rw [if_pos (by omega), if_pos h, if_pos (by omega), Nat.succ_mul]
    · rw [if_neg h, if_neg (by omega : ¬ n + 1 ≤ k)]
      by_cases h2 : n ≤ k
      · rw [if_pos h2]; have : n = k := by omega
        subst this; rfl
      · rw [if_neg h2]; rfl
theorem a_sm_k (n : Nat) (f : Nat → Nat) (m : Nat) (h : ∀ i, i < n → f i ≤ m) : a_sm n f ≤ n * m := by
  induction n with
  | zero => exact Nat.zero_le _
  | succ n ih =>
    show a_sm n f + f n ≤ _
    have := ih (fun i hi => h i (by omega))
    have := h n (by omega)
    rw [Nat.succ_mul]; omega
/-- how many of a, a + 1, .. (m of them) are so -/
def a_c (P : Nat → Bool) : Nat → Nat → Nat
  | _, 0 => 0
  | a, m + 1 => (if P a then 1 else 0) + a_c P (a + 1) m
theorem a_c_c {P Q : Nat → Bool} : ∀ {m a : Nat}, (∀ i, a ≤ i → i < a + m → P i = Q i) → a_c P a m = a_c Q a m
  | 0, _, _ => rfl
  | m + 1, a, h => by
    show (if P a then 1 else 0) + a_c P (a + 1) m = (if Q a then 1 else 0) + a_c Q (a + 1) m
    rw [h a (by omega) (by omega), a_c_c (fun i h1 h2 => h i (by omega) (by omega))]
theorem a_c_0 {P : Nat → Bool} : ∀ {m a : Nat}, (∀ i, a ≤ i → i < a + m → P i = false) → a_c P a m = 0
  | 0, _, _ => rfl
  | m + 1, a, h => by
    show (if P a then 1 else 0) + a_c P (a + 1) m = 0
    rw [h a (by omega) (by omega), a_c_0 (fun i h1 h2 => h i (by omega) (by omega))]
    rfl
theorem a_c_k {P : Nat → Bool} : ∀ {m a : Nat}, a_c P a m ≤ m
  | 0, _ => Nat.le_refl _
  | m + 1, a => by
    show (if P a then 1 else 0) + a_c P (a + 1) m ≤ m + 1
    have := a_c_k (P := P) (m := m) (a := a + 1)
    split <;> omega
theorem a_c_1 {P : Nat → Bool} : ∀ {m a : Nat}, (∀ i, a ≤ i → i < a + m → P i = true) → a_c P a m = m
  | 0, _, _ => rfl
  | m + 1, a, h => by
    show (if P a then 1 else 0) + a_c P (a + 1) m = m + 1
    rw [h a (by omega) (by omega), a_c_1 (fun i h1 h2 => h i (by omega) (by omega))]
    simp; omega
theorem a_c_le {P Q : Nat → Bool} : ∀ {m a : Nat}, (∀ i, a ≤ i → i < a + m → P i = true → Q i = true) → a_c P a m ≤ a_c Q a m
  | 0, _, _ => Nat.le_refl _
  | m + 1, a, h => by
    show (if P a then 1 else 0) + a_c P (a + 1) m ≤ (if Q a then 1 else 0) + a_c Q (a + 1) m
    have h1 := a_c_le (P := P) (Q := Q) (m := m) (a := a + 1) (fun i h1 h2 => h i (by omega) (by omega))
    have h2 := h a (by omega) (by omega)
    cases hp : P a
    · simp; omega
    · rw [h2 hp]; simp; omega
theorem a_c_s (P : Nat → Bool) : ∀ (m k a : Nat), a_c P a (m + k) = a_c P a m + a_c P (a + m) k
  | 0, k, a => by simp [a_c]
  | m + 1, k, a => by
    rw [show m + 1 + k = (m + k) + 1 from by omega]
    show (if P a then 1 else 0) + a_c P (a + 1) (m + k) = (if P a then 1 else 0) + a_c P (a + 1) m + a_c P (a + (m + 1)) k
    rw [a_c_s P m k (a + 1), show a + 1 + m = a + (m + 1) from by omega]; omega
/-- one more -/
theorem a_c_p {P Q : Nat → Bool} {a m x : Nat} (hx : a ≤ x) (hx2 : x < a + m) (hp : P x = true) (hq : Q x = false) (h : ∀ i, a ≤ i → i < a + m → i ≠ x → P i = Q i) : a_c P a m = a_c Q a m + 1 := by
  have e : m = (x - a) + (1 + (m - (x - a) - 1)) := by omega
  rw [e, a_c_s, a_c_s, a_c_s Q, a_c_s Q, a_c_c (P := P) (Q := Q) (a := a) (m := x - a) (fun i h1 h2 => h i h1 (by omega) (by omega))]
  rw [a_c_c (P := P) (Q := Q) (a := a + (x - a) + 1) (fun i h1 h2 => h i (by omega) (by omega) (by omega))]
  have e2 : a + (x - a) = x := by omega
  rw [e2]
  show _ + ((if P x then 1 else 0) + 0 + _) = _ + ((if Q x then 1 else 0) + 0 + _) + 1
  rw [hp, hq]
  simp; omega
theorem a_c_pos {P : Nat → Bool} : ∀ {m a : Nat}, 0 < a_c P a m → ∃ i, a ≤ i ∧ i < a + m ∧ P i = true := by
  intro m a h
  apply Classical.byContradiction
  intro hn
  have : a_c P a m = 0 := a_c_0 (fun i h1 h2 => by
    cases hp : P i
    · rfl
    · exact (hn ⟨i, h1, h2, hp⟩).elim)
  omega
/-- the layers -/
def a_L (N D : Nat → Nat) : Nat := a_sm 9 (fun t => a_sm 20 (fun u => N u - D t))
theorem a_L_c {N N' D D' : Nat → Nat} (h1 : ∀ u, N u = N' u) (h2 : ∀ t, D t = D' t) : a_L N D = a_L N' D' := a_sm_c (fun t _ => a_sm_c (fun u _ => by rw [h1, h2]))
theorem a_pr (l s : Nat) (hl : l ≤ 9) (hs : s ≤ 20) : l * s = a_sm 9 (fun t => a_sm 20 (fun u => if t < l ∧ u < s then 1 else 0)) := by
  have h : ∀ t, t < 9 → a_sm 20 (fun u => if t < l ∧ u < s then 1 else 0) = (if t < l then s else 0) := by
    intro t _
    by_cases h : t < l
    · rw [if_pos h]
      rw [a_sm_c (g := fun u => if u < s then 1 else 0) (fun u _ => by simp [h]), a_sm_if]
      by_cases h2 : 20 ≤ s
      · rw [if_pos h2]; omega
      · rw [if_neg h2]; omega
    · rw [if_neg h, a_sm_c (g := fun u => if u < 0 then 1 else 0) (fun u _ => by simp [h]), a_sm_if]; rfl
  rw [a_sm_c h, a_sm_if]
  by_cases h2 : 9 ≤ l
  · rw [if_pos h2, show l = 9 from by omega]
  · rw [if_neg h2]
theorem a_L_st (N D : Nat → Nat) (l s : Nat) (hl : l ≤ 9) (hs : s ≤ 20) (h1 : ∀ u, s ≤ u → N u = 0) (h2 : ∀ t, t < l → D t = 0) : a_L (fun u => (if u < s then 1 else 0) + N u) (fun t => (if l ≤ t then 1 else 0) + D t) = l * s + a_L N D := by
  unfold a_L
  rw [a_pr l s hl hs, ← a_sm_add]
  refine a_sm_c (fun t _ => ?_)
  rw [← a_sm_add]
  refine a_sm_c (fun u _ => ?_)
  have h1 := h1 u
  have h2 := h2 t
  dsimp only
  by_cases c1 : u < s <;> by_cases c2 : t < l
  · rw [if_pos c1, if_neg (by omega : ¬ l ≤ t), if_pos ⟨c2, c1⟩, h2 c2]; omega
  · rw [if_pos c1, if_pos (by omega : l ≤ t), if_neg (by omega)]; omega
  · rw [if_neg c1, if_neg (by omega : ¬ l ≤ t), if_neg (by omega)]; omega
  · rw [if_neg c1, if_pos (by omega : l ≤ t), if_neg (by omega), h1 (by omega)]; omega
theorem a_L_ex (N D : Nat → Nat) (l s : Nat) (hl : l ≤ 9) (hs : s ≤ 20) : a_L (fun u => N u + (if u < s then 1 else 0)) (fun t => D t + (if l ≤ t then 1 else 0)) ≤ l * s + a_L N D := by
  unfold a_L
  rw [a_pr l s hl hs, ← a_sm_add]
  refine a_sm_le (fun t _ => ?_)
  rw [← a_sm_add]
  refine a_sm_le (fun u _ => ?_)
  dsimp only
  by_cases c1 : u < s <;> by_cases c2 : t < l
  · rw [if_pos c1, if_neg (by omega : ¬ l ≤ t), if_pos ⟨c2, c1⟩]; omega
  · rw [if_pos c1, if_pos (by omega : l ≤ t), if_neg (by omega)]; omega
  · rw [if_neg c1, if_neg (by omega : ¬ l ≤ t), if_neg (by omega)]; omega
  · rw [if_neg c1, if_pos (by omega : l ≤ t), if_neg (by omega)]; omega
theorem a_L_eq (N D : Nat → Nat) (l s : Nat) (hl : l ≤ 9) (hs : s ≤ 20) (h1 : ∀ t u, u < s → t < l → D t ≤ N u) (h2 : ∀ t u, s ≤ u → l ≤ t → N u ≤ D t) : a_L (fun u => N u + (if u < s then 1 else 0)) (fun t => D t + (if l ≤ t then 1 else 0)) = l * s + a_L N D := by
  unfold a_L
  rw [a_pr l s hl hs, ← a_sm_add]
  refine a_sm_c (fun t _ => ?_)
  rw [← a_sm_add]
  refine a_sm_c (fun u _ => ?_)
  have h1 := h1 t u
  have h2 := h2 t u
  dsimp only
  by_cases c1 : u < s <;> by_cases c2 : t < l
  · rw [if_pos c1, if_neg (by omega : ¬ l ≤ t), if_pos ⟨c2, c1⟩]; have := h1 c1 c2; omega
  · rw [if_pos c1, if_pos (by omega : l ≤ t), if_neg (by omega)]; omega
  · rw [if_neg c1, if_neg (by omega : ¬ l ≤ t), if_neg (by omega)]; omega
  · rw [if_neg c1, if_pos (by omega : l ≤ t), if_neg (by omega)]; have := h2 (by omega) (by omega); omega
/-- jars from 'first' on with more than u spoons; places that are free with no more than t light -/
def a_N (s : Nat → Nat) (n first u : Nat) : Nat := a_c (fun j => decide (first ≤ j) && decide (u < s j)) 0 n
def a_D (l : Nat → Nat) (tk t : Nat) : Nat := a_c (fun p => !tk.testBit p && decide (l p ≤ t)) 0 12
def a_fr (tk : Nat) : Nat := a_c (fun p => !tk.testBit p) 0 12
def a_F (s l : Nat → Nat) (n first tk : Nat) : Nat := a_L (a_N s n first) (a_D l tk)
theorem a_N_s (s : Nat → Nat) (n j u : Nat) (hj : j < n) : a_N s n j u = a_N s n (j + 1) u + (if u < s j then 1 else 0) := by
  unfold a_N
  by_cases h : u < s j
  · rw [if_pos h]
    refine a_c_p (x := j) (by omega) (by omega) (by simp [h]) (by simp; omega) (fun i _ _ hi => ?_)
    have : (j ≤ i) = (j + 1 ≤ i) := propext ⟨fun h => by omega, fun h => by omega⟩
    simp only [this]
  · rw [if_neg h, Nat.add_zero]
    refine a_c_c (fun i _ _ => ?_)
    by_cases e : i = j
    · subst e; simp [h]
    · have : (j ≤ i) = (j + 1 ≤ i) := propext ⟨fun h => by omega, fun h => by omega⟩
      simp only [this]
theorem a_or_b (tk p i : Nat) : (tk ||| 2 ^ p).testBit i = (tk.testBit i || decide (p = i)) := by
  rw [Nat.testBit_or, Nat.testBit_two_pow]
theorem a_D_s (l : Nat → Nat) (tk p t : Nat) (hp : p < 12) (hf : tk.testBit p = false) : a_D l tk t = a_D l (tk ||| 2 ^ p) t + (if l p ≤ t then 1 else 0) := by
  unfold a_D
  by_cases h : l p ≤ t
  · rw [if_pos h]
    refine a_c_p (x := p) (by omega) (by omega) (by simp [h, hf]) (by simp [a_or_b]) (fun i _ _ hi => ?_)
    have : ¬ p = i := fun e => hi e.symm
    simp [a_or_b, this]
  · rw [if_neg h, Nat.add_zero]
    refine a_c_c (fun i _ _ => ?_)
    by_cases e : p = i
    · subst e; simp [h]
    · simp [a_or_b, e]
theorem a_fr_s (tk p : Nat) (hp : p < 12) (hf : tk.testBit p = false) : a_fr tk = a_fr (tk ||| 2 ^ p) + 1 := by
  unfold a_fr
  refine a_c_p (x := p) (by omega) (by omega) (by simp [hf]) (by simp [a_or_b]) (fun i _ _ hi => ?_)
  have : ¬ p = i := fun e => hi e.symm
  simp [a_or_b, this]
/-- any place is at least as bad .. -/
theorem a_F_ex (s l : Nat → Nat) (n j tk p : Nat) (hs : ∀ j, j < n → s j ≤ 20) (hl : ∀ p, p < 12 → l p ≤ 9) (hj : j < n) (hp : p < 12) (hf : tk.testBit p = false) : a_F s l n j tk ≤ l p * s j + a_F s l n (j + 1) (tk ||| 2 ^ p) := by
  unfold a_F
  rw [a_L_c (N := a_N s n j) (D := a_D l tk) (fun u => a_N_s s n j u hj) (fun t => a_D_s l tk p t hp hf)]
  exact a_L_ex _ _ _ _ (hl p hp) (hs j hj)
theorem a_least (P : Nat → Prop) [DecidablePred P] : ∀ n, P n → ∃ m, m ≤ n ∧ P m ∧ ∀ k, k < m → ¬ P k := by
  intro n
  induction n using Nat.strongRecOn with
  | _ n ih =>
    intro h
    by_cases c : ∃ k, k < n ∧ P k
    · obtain ⟨k, h1, h2⟩ := c
      obtain ⟨m, h3, h4, h5⟩ := ih k h1 h2
      exact ⟨m, by omega, h4, h5⟩
    · exact ⟨n, Nat.le_refl _, h, fun k hk hp => c ⟨k, hk, hp⟩⟩
/-- .. and one of them is as good -/
theorem a_F_eq (s l : Nat → Nat) (n j tk : Nat) (hs : ∀ j, j < n → s j ≤ 20) (hl : ∀ p, p < 12 → l p ≤ 9) (hj : j < n) (hf : n - j ≤ a_fr tk) : ∃ p, p < 12 ∧ tk.testBit p = false ∧ l p * s j + a_F s l n (j + 1) (tk ||| 2 ^ p) = a_F s l n j tk := by
  have hd9 : a_N s n (j + 1) (s j) < a_D l tk 9 := by
    have e1 : a_D l tk 9 = a_fr tk := a_c_c (fun i _ hi => by have := hl i (by omega); simp [this])
    have e2 : a_N s n (j + 1) (s j) ≤ n - (j + 1) := by
      unfold a_N
      rw [show n = (j + 1) + (n - (j + 1)) from by omega, a_c_s, a_c_0 (fun i _ hi => by simp; omega)]
      have := a_c_k (P := fun i => decide (j + 1 ≤ i) && decide (s j < s i)) (m := n - (j + 1)) (a := 0 + (j + 1))
      omega
    omega
  obtain ⟨t, ht, h1, h2⟩ := a_least (fun t => a_N s n (j + 1) (s j) < a_D l tk t) 9 hd9
  have hmN : ∀ u v, u ≤ v → a_N s n (j + 1) v ≤ a_N s n (j + 1) u := fun u v huv => a_c_le (fun i _ _ h => by simp at h ⊢; omega)
  have hmD : ∀ u v, u ≤ v → a_D l tk u ≤ a_D l tk v := fun u v huv => a_c_le (fun i _ _ h => by simp at h ⊢; exact ⟨h.1, by omega⟩)
  have hp : ∃ p, p < 12 ∧ tk.testBit p = false ∧ l p = t := by
    apply Classical.byContradiction
    intro hn
    rcases Nat.eq_zero_or_pos t with rfl | h0
    · obtain ⟨i, _, h4, h5⟩ := a_c_pos (Nat.lt_of_le_of_lt (Nat.zero_le _) h1)
      simp at h5
      exact hn ⟨i, by omega, h5.1, h5.2⟩
    · have h3 := h2 (t - 1) (by omega)
      have e : a_D l tk t = a_D l tk (t - 1) := by
        refine a_c_c (fun i _ hi => ?_)
        by_cases c : tk.testBit i = false
        · have : l i ≠ t := fun e => hn ⟨i, by omega, c, e⟩
          have : (l i ≤ t) = (l i ≤ t - 1) := propext ⟨fun h => by omega, fun h => by omega⟩
          simp only [this]
        · rw [Bool.eq_false_iff] at c; simp only [ne_eq, Classical.not_not] at c; simp [c]
      omega
  obtain ⟨p, hp1, hp2, hp3⟩ := hp
  refine ⟨p, hp1, hp2, ?_⟩
  unfold a_F
  rw [a_L_c (N := a_N s n j) (D := a_D l tk) (fun u => a_N_s s n j u hj) (fun t => a_D_s l tk p t hp1 hp2)]
  refine (a_L_eq _ _ _ _ (hl p hp1) (hs j hj) (fun t' u hu ht' => ?_) (fun t' u hu ht' => ?_)).symm
  · have h3 := h2 t' (by omega)
    have h4 := hmN u (s j) (by omega)
    have h5 := a_D_s l tk p t' hp1 hp2
    omega
  · have h3 := hmD t t' (by omega)
    have h4 := hmN (s j) u (by omega)
    have h5 := a_D_s l tk p t' hp1 hp2
    rw [if_pos ht'] at h5
    omega
theorem a_F_k (s l : Nat → Nat) (n first tk : Nat) (hn : n ≤ 10) : a_F s l n first tk ≤ 1800 := by
  refine a_sm_k 9 _ 200 (fun t _ => a_sm_k 20 _ 10 (fun u _ => ?_))
  have : a_N s n first u ≤ n := a_c_k
  omega
theorem a_F_n (s l : Nat → Nat) (n tk : Nat) : a_F s l n n tk = 0 := by
  have h : ∀ u, a_N s n n u = 0 := fun u => a_c_0 (fun i _ hi => by simp; omega)
  have := a_sm_k 9 (fun t => a_sm 20 (fun u => a_N s n n u - a_D l tk t)) 0 (fun t _ => a_sm_k 20 _ 0 (fun u _ => by rw [h]; omega))
  unfold a_F a_L
  omega
def a_sp (t : Bool) (V H b : Nat) : Nat := if t = false ∧ V < 2000000000 then (if H + V < b then H + V else b) else b
/-- the table: k jars are to be put -/
def a_T (s l : Nat → Nat) (n : Nat) : Nat → Nat → Nat
  | 0, _ => 0
  | k + 1, tk => z_it (fun p b => a_sp (tk.testBit p) (a_T s l n k (tk ||| 2 ^ p)) (l p * s (n - (k + 1))) b) 12 2000000000
theorem a_min (c : Nat → Prop) [DecidablePred c] (f : Nat → Nat) (V M : Nat) (hM : V ≤ M) : ∀ n, (∀ p, p < n → c p → V ≤ f p) → V ≤ z_it (fun p b => if c p then (if f p < b then f p else b) else b) n M ∧ ((∃ p, p < n ∧ c p ∧ f p = V) → z_it (fun p b => if c p then (if f p < b then f p else b) else b) n M = V) := by
  intro n
  induction n with
  | zero => intro _; exact ⟨hM, fun ⟨p, h, _⟩ => by omega⟩
  | succ n ih =>
    intro h
    obtain ⟨h1, h2⟩ := ih (fun p hp => h p (by omega))
    have h3 := h n (by omega)
    have e : ∀ g : Nat → Nat → Nat, z_it g (n + 1) M = g n (z_it g n M) := fun _ => rfl
    rw [e]
    generalize z_it (fun p b => if c p then (if f p < b then f p else b) else b) n M = b at h1 h2
    by_cases c1 : c n
    · have h3 := h3 c1
      rw [if_pos c1]
      refine ⟨by split <;> omega, fun ⟨p, hp, c2, e⟩ => ?_⟩
      by_cases c3 : p = n
      · subst c3
        split <;> omega
      · have := h2 ⟨p, by omega, c2, e⟩
        split <;> omega
    · rw [if_neg c1]
      refine ⟨h1, fun ⟨p, hp, c2, e⟩ => h2 ⟨p, ?_, c2, e⟩⟩
      rcases Nat.lt_or_ge p n with h4 | h4
      · exact h4
      · have : p = n := by omega
        subst this; exact (c1 c2).elim
theorem a_T_F (s l : Nat → Nat) (n : Nat) (hn : n ≤ 10) (hs : ∀ j, j < n → s j ≤ 20) (hl : ∀ p, p < 12 → l p ≤ 9) : ∀ k tk, k ≤ n → k ≤ a_fr tk → a_T s l n k tk = a_F s l n (n - k) tk := by
  intro k
  induction k with
  | zero => intro tk _ _; exact (a_F_n s l n tk).symm
  | succ k ih =>
    intro tk hk hf
    have hi : ∀ p, p < 12 → tk.testBit p = false → a_T s l n k (tk ||| 2 ^ p) = a_F s l n (n - (k + 1) + 1) (tk ||| 2 ^ p) := by
      intro p hp hb
      rw [ih _ (by omega) (by have := a_fr_s tk p hp hb; omega), show n - (k + 1) + 1 = n - k from by omega]
    have hk' := fun p => a_F_k s l n (n - (k + 1) + 1) (tk ||| 2 ^ p) hn
    refine (a_min (fun p => tk.testBit p = false ∧ a_T s l n k (tk ||| 2 ^ p) < 2000000000) (fun p => l p * s (n - (k + 1)) + a_T s l n k (tk ||| 2 ^ p)) (a_F s l n (n - (k + 1)) tk) 2000000000 (by have := a_F_k s l n (n - (k + 1)) tk hn; omega) 12 (fun p hp c => ?_)).2 ?_
    · rw [hi p hp c.1]
      exact a_F_ex s l n _ tk p hs hl (by omega) hp c.1
    · obtain ⟨p, h1, h2, h3⟩ := a_F_eq s l n (n - (k + 1)) tk hs hl (by omega) (by omega)
      refine ⟨p, h1, ⟨h2, ?_⟩, ?_⟩
      · rw [hi p h1 h2]; have := hk' p; omega
      · rw [hi p h1 h2, h3]
theorem a_T_k (s l : Nat → Nat) (n : Nat) : ∀ k tk, a_T s l n k tk ≤ 2000000000
  | 0, _ => Nat.zero_le _
  | k + 1, tk => by
    have h : ∀ (f : Nat → Nat) (c : Nat → Prop) [DecidablePred c] m, z_it (fun p b => if c p then (if f p < b then f p else b) else b) m 2000000000 ≤ 2000000000 := by
      intro f c _ m
      induction m with
      | zero => exact Nat.le_refl _
      | succ m ih =>
        have e : ∀ g : Nat → Nat → Nat, z_it g (m + 1) 2000000000 = g m (z_it g m 2000000000) := fun _ => rfl
        rw [e]
        generalize z_it (fun p b => if c p then (if f p < b then f p else b) else b) m 2000000000 = b at ih
        by_cases c1 : c m
        · rw [if_pos c1]; split <;> omega
        · rw [if_neg c1]; exact ih
    exact h (fun p => l p * s (n - (k + 1)) + a_T s l n k (tk ||| 2 ^ p)) (fun p => tk.testBit p = false ∧ a_T s l n k (tk ||| 2 ^ p) < 2000000000) 12
/-- the first place of those that are as good -/
def a_f (c : Nat → Bool) : Nat → Nat → Nat
  | 0, p => p
  | m + 1, p => if c p then p else a_f c m (p + 1)
theorem a_f_s (c : Nat → Bool) : ∀ (m p : Nat), (∃ q, p ≤ q ∧ q < p + m ∧ c q = true) → p ≤ a_f c m p ∧ a_f c m p < p + m ∧ c (a_f c m p) = true ∧ ∀ q, p ≤ q → q < a_f c m p → c q = false
  | 0, p, h => by obtain ⟨q, h1, h2, _⟩ := h; omega
  | m + 1, p, h => by
    unfold a_f
    by_cases e : c p = true
    · rw [if_pos e]; exact ⟨Nat.le_refl _, by omega, e, fun q h1 h2 => by omega⟩
    · rw [if_neg e]
      have : ∃ q, p + 1 ≤ q ∧ q < p + 1 + m ∧ c q = true := by
        obtain ⟨q, h1, h2, h3⟩ := h
        have : q ≠ p := fun e2 => e (e2 ▸ h3)
        exact ⟨q, by omega, by omega, h3⟩
      obtain ⟨h1, h2, h3, h4⟩ := a_f_s c m (p + 1) this
      refine ⟨by omega, by omega, h3, fun q h5 h6 => ?_⟩
      rcases Nat.eq_or_lt_of_le h5 with rfl | h5
      · exact Bool.eq_false_iff.mpr e
      · exact h4 q h5 h6
def a_g (s l : Nat → Nat) (n j tk p : Nat) : Bool := !tk.testBit p && decide (l p * s j + a_F s l n (j + 1) (tk ||| 2 ^ p) = a_F s l n j tk)
def a_P (s l : Nat → Nat) (n j tk : Nat) : Nat := a_f (a_g s l n j tk) 12 0
theorem a_P_s (s l : Nat → Nat) (n j tk : Nat) (hs : ∀ j, j < n → s j ≤ 20) (hl : ∀ p, p < 12 → l p ≤ 9) (hj : j < n) (hf : n - j ≤ a_fr tk) : a_P s l n j tk < 12 ∧ tk.testBit (a_P s l n j tk) = false ∧ l (a_P s l n j tk) * s j + a_F s l n (j + 1) (tk ||| 2 ^ (a_P s l n j tk)) = a_F s l n j tk ∧ ∀ q, q < a_P s l n j tk → ¬ (tk.testBit q = false ∧ l q * s j + a_F s l n (j + 1) (tk ||| 2 ^ q) = a_F s l n j tk) := by
  obtain ⟨p, h1, h2, h3⟩ := a_F_eq s l n j tk hs hl hj hf
  obtain ⟨_, h4, h5, h6⟩ := a_f_s (a_g s l n j tk) 12 0 ⟨p, by omega, by omega, by simp [a_g, h2, h3]⟩
  have h5' : tk.testBit (a_P s l n j tk) = false ∧ l (a_P s l n j tk) * s j + a_F s l n (j + 1) (tk ||| 2 ^ (a_P s l n j tk)) = a_F s l n j tk := by
    simp only [a_g, Bool.and_eq_true, Bool.not_eq_true', decide_eq_true_eq] at h5
    exact h5
  refine ⟨by unfold a_P; omega, h5'.1, h5'.2, fun q hq hc => ?_⟩
  have := h6 q (Nat.zero_le _) hq
  rw [a_g, hc.1, hc.2] at this
  simp at this
/-- places taken when j jars are put, and the last jar's place -/
def a_W (s l : Nat → Nat) (n : Nat) : Nat → Nat × Nat
  | 0 => (0, 0)
  | j + 1 => ((a_W s l n j).1 ||| 2 ^ a_P s l n j (a_W s l n j).1, a_P s l n j (a_W s l n j).1)
theorem a_W_s (s l : Nat → Nat) (n : Nat) (hn : n ≤ 10) (hs : ∀ j, j < n → s j ≤ 20) (hl : ∀ p, p < 12 → l p ≤ 9) : ∀ j, j ≤ n → a_fr (a_W s l n j).1 = 12 - j ∧ (a_W s l n j).1 < 4096
  | 0, _ => ⟨by show a_fr 0 = 12; decide, by show 0 < 4096; decide⟩
  | j + 1, h => by
    obtain ⟨h1, h2⟩ := a_W_s s l n hn hs hl j (by omega)
    obtain ⟨h3, h4, _⟩ := a_P_s s l n j (a_W s l n j).1 hs hl (by omega) (by omega)
    have h5 := a_fr_s _ _ h3 h4
    refine ⟨by show a_fr ((a_W s l n j).1 ||| 2 ^ a_P s l n j (a_W s l n j).1) = _; omega, ?_⟩
    show (a_W s l n j).1 ||| 2 ^ a_P s l n j (a_W s l n j).1 < 2 ^ 12
    exact Nat.or_lt_two_pow h2 (Nat.pow_lt_pow_right (by decide) h3)
/-! sorting by insertion -/
def a_u (σ : Nat → Nat) (k v : Nat) (f : Nat) : Nat := if f = k then v else σ f
def a_sd (g σ : Nat → Nat) (m : Nat) : Prop := (∀ f, f < m → σ f < m) ∧ (∀ f e, f < e → e < m → g (σ f) ≤ g (σ e)) ∧ ∀ P : Nat → Bool, a_c (fun f => P (σ f)) 0 m = a_c P 0 m
def a_sh (g σ : Nat → Nat) (x y : Nat) : Prop := y ≤ x ∧ (∀ f, f ≤ x → f ≠ y → σ f < x) ∧ (∀ f e, f < e → e ≤ x → f ≠ y → e ≠ y → g (σ f) ≤ g (σ e)) ∧ (∀ f, y < f → f ≤ x → g x < g (σ f)) ∧ ∀ P : Nat → Bool, a_c (fun f => P (σ f)) 0 y + a_c (fun f => P (σ f)) (y + 1) (x - y) = a_c P 0 x
theorem a_s0 {g σ : Nat → Nat} {x : Nat} (h : a_sd g σ x) : a_sh g σ x x := by
  obtain ⟨h1, h2, h3⟩ := h
  refine ⟨Nat.le_refl _, fun f a b => h1 f (by omega), fun f e a b c d => h2 f e a (by omega), fun f a b => by omega, fun P => ?_⟩
  rw [Nat.sub_self]
  exact h3 P
theorem a_s1 {g σ : Nat → Nat} {x y : Nat} (h : a_sh g σ x (y + 1)) (hg : g x < g (σ y)) : a_sh g (a_u σ (y + 1) (σ y)) x y := by
  obtain ⟨h1, h2, h3, h4, h5⟩ := h
  refine ⟨by omega, fun f a b => ?_, fun f e a b c d => ?_, fun f a b => ?_, fun P => ?_⟩
  · unfold a_u
    by_cases e : f = y + 1
    · rw [if_pos e]; exact h2 y (by omega) (by omega)
    · rw [if_neg e]; exact h2 f a e
  · unfold a_u
    by_cases e1 : f = y + 1
    · rw [if_pos e1, if_neg (by omega)]; exact h3 y e (by omega) b (by omega) (by omega)
    · rw [if_neg e1]
      by_cases e2 : e = y + 1
      · rw [if_pos e2]; exact h3 f y (by omega) (by omega) e1 (by omega)
      · rw [if_neg e2]; exact h3 f e a b e1 e2
  · unfold a_u
    by_cases e : f = y + 1
    · rw [if_pos e]; exact hg
    · rw [if_neg e]; exact h4 f (by omega) b
  · rw [← h5 P, a_c_s _ y 1 0, show x - y = 1 + (x - (y + 1)) from by omega, a_c_s _ 1 _ (y + 1)]
    rw [a_c_c (P := fun f => P (a_u σ (y + 1) (σ y) f)) (Q := fun f => P (σ f)) (a := 0) (m := y) (fun i _ hi => by simp only [a_u]; rw [if_neg (by omega)])]
    rw [a_c_c (P := fun f => P (a_u σ (y + 1) (σ y) f)) (Q := fun f => P (σ f)) (a := y + 1 + 1) (fun i _ hi => by simp only [a_u]; rw [if_neg (by omega)])]
    have e1 : a_c (fun f => P (a_u σ (y + 1) (σ y) f)) (y + 1) 1 = a_c (fun f => P (σ f)) (0 + y) 1 := by
      show (if P (a_u σ (y + 1) (σ y) (y + 1)) then 1 else 0) + 0 = (if P (σ (0 + y)) then 1 else 0) + 0
      unfold a_u
      rw [if_pos rfl, Nat.zero_add]
    rw [e1]; omega
theorem a_s2 {g σ : Nat → Nat} {x y : Nat} (h : a_sh g σ x y) (hg : ∀ z, z + 1 = y → g (σ z) ≤ g x) : a_sd g (a_u σ y x) (x + 1) := by
  obtain ⟨h1, h2, h3, h4, h5⟩ := h
  refine ⟨fun f a => ?_, fun f e a b => ?_, fun P => ?_⟩
  · unfold a_u
    by_cases e : f = y
    · rw [if_pos e]; omega
    · rw [if_neg e]; have := h2 f (by omega) e; omega
  · unfold a_u
    by_cases e1 : f = y
    · rw [if_pos e1, if_neg (by omega)]; exact Nat.le_of_lt (h4 e (by omega) (by omega))
    · rw [if_neg e1]
      by_cases e2 : e = y
      · rw [if_pos e2]
        have hz := hg (y - 1) (by omega)
        by_cases e3 : f = y - 1
        · subst e3; exact hz
        · exact Nat.le_trans (h3 f (y - 1) (by omega) (by omega) e1 (by omega)) hz
      · rw [if_neg e2]; exact h3 f e a (by omega) e1 e2
  · rw [show x + 1 = y + (1 + (x - y)) from by omega, a_c_s _ y _ 0, a_c_s _ 1 _ (0 + y)]
    rw [a_c_c (P := fun f => P (a_u σ y x f)) (Q := fun f => P (σ f)) (a := 0) (m := y) (fun i _ hi => by simp only [a_u]; rw [if_neg (by omega)])]
    rw [a_c_c (P := fun f => P (a_u σ y x f)) (Q := fun f => P (σ f)) (a := 0 + y + 1) (fun i _ hi => by simp only [a_u]; rw [if_neg (by omega)])]
    have e1 : a_c (fun f => P (a_u σ y x f)) (0 + y) 1 = a_c P (0 + x) 1 := by
      show (if P (a_u σ y x (0 + y)) then 1 else 0) + 0 = (if P (0 + x) then 1 else 0) + 0
      unfold a_u
      rw [Nat.zero_add, Nat.zero_add, if_pos rfl]
    rw [e1, show y + (1 + (x - y)) = x + 1 from by omega, a_c_s P x 1 0, ← h5 P, Nat.zero_add, Nat.zero_add]; omega
theorem a_sd0 (g σ : Nat → Nat) : a_sd g σ 0 := ⟨fun f h => by omega, fun f e _ h => by omega, fun P => rfl⟩
/-! the walk over both orders -/
def a_n (s σ : Nat → Nat) (n first f u : Nat) : Nat := a_c (fun i => decide (first ≤ σ i) && decide (u < s (σ i))) f (n - f)
def a_d (l π : Nat → Nat) (tk e t : Nat) : Nat := a_c (fun i => !tk.testBit (π i) && decide (l (π i) ≤ t)) e (12 - e)
def a_k (σ : Nat → Nat) (n first f : Nat) : Nat := a_c (fun i => decide (first ≤ σ i)) f (n - f)
def a_e (π : Nat → Nat) (tk e : Nat) : Nat := a_c (fun i => !tk.testBit (π i)) e (12 - e)
theorem a_c_h (P : Nat → Bool) (a m : Nat) (h : a < m) : a_c P a (m - a) = (if P a then 1 else 0) + a_c P (a + 1) (m - (a + 1)) := by
  rw [show m - a = (m - (a + 1)) + 1 from by omega]; rfl
theorem a_w0 (s l σ π : Nat → Nat) (n first tk e : Nat) : a_L (a_n s σ n first n) (a_d l π tk e) = 0 := by
  have h : ∀ u, a_n s σ n first n u = 0 := fun u => by unfold a_n; rw [Nat.sub_self]; rfl
  have := a_sm_k 9 (fun t => a_sm 20 (fun u => a_n s σ n first n u - a_d l π tk e t)) 0 (fun t _ => a_sm_k 20 _ 0 (fun u _ => by rw [h]; omega))
  unfold a_L
  omega
theorem a_w1 (s l σ π : Nat → Nat) (n first tk f e : Nat) (hf : f < n) (h : ¬ first ≤ σ f) : a_L (a_n s σ n first f) (a_d l π tk e) = a_L (a_n s σ n first (f + 1)) (a_d l π tk e) ∧ a_k σ n first f = a_k σ n first (f + 1) := by
  refine ⟨a_L_c (fun u => ?_) (fun _ => rfl), ?_⟩
  · unfold a_n; rw [a_c_h _ f n hf]; simp [h]
  · unfold a_k; rw [a_c_h _ f n hf]; simp [h]
theorem a_w2 (s l σ π : Nat → Nat) (n first tk f e : Nat) (he : e < 12) (h : tk.testBit (π e) = true) : a_L (a_n s σ n first f) (a_d l π tk e) = a_L (a_n s σ n first f) (a_d l π tk (e + 1)) ∧ a_e π tk e = a_e π tk (e + 1) := by
  refine ⟨a_L_c (fun _ => rfl) (fun t => ?_), ?_⟩
  · unfold a_d; rw [a_c_h _ e 12 he]; simp [h]
  · unfold a_e; rw [a_c_h _ e 12 he]; simp [h]
theorem a_w3 (s l σ π : Nat → Nat) (n first tk f e : Nat) (hs : ∀ j, j < n → s j ≤ 20) (hl : ∀ p, p < 12 → l p ≤ 9) (hσ : a_sd (fun j => 20 - s j) σ n) (hπ : a_sd l π 12) (hf : f < n) (he : e < 12) (h1 : first ≤ σ f) (h2 : tk.testBit (π e) = false) : a_L (a_n s σ n first f) (a_d l π tk e) = l (π e) * s (σ f) + a_L (a_n s σ n first (f + 1)) (a_d l π tk (e + 1)) ∧ a_k σ n first f = a_k σ n first (f + 1) + 1 ∧ a_e π tk e = a_e π tk (e + 1) + 1 := by
  refine ⟨?_, ?_, ?_⟩
  · rw [← a_L_st _ _ (l (π e)) (s (σ f)) (hl _ (hπ.1 e he)) (hs _ (hσ.1 f hf))]
    · refine a_L_c (fun u => ?_) (fun t => ?_)
      · unfold a_n; rw [a_c_h _ f n hf]; simp [h1]
      · unfold a_d; rw [a_c_h _ e 12 he]; simp [h2]
    · intro u hu
      refine a_c_0 (fun i h3 h4 => ?_)
      have h5 : 20 - s (σ f) ≤ 20 - s (σ i) := hσ.2.1 f i (by omega) (by omega)
      have h6 := hs _ (hσ.1 f hf)
      have h7 := hs _ (hσ.1 i (by omega))
      simp
      intro _
      omega
    · intro t ht
      refine a_c_0 (fun i h3 h4 => ?_)
      have h5 := hπ.2.1 e i (by omega) (by omega)
      simp
      intro _
      omega
  · unfold a_k; rw [a_c_h _ f n hf]; simp [h1]; omega
  · unfold a_e; rw [a_c_h _ e 12 he]; simp [h2]; omega
theorem a_wF (s l σ π : Nat → Nat) (n first tk : Nat) (hσ : a_sd (fun j => 20 - s j) σ n) (hπ : a_sd l π 12) : a_L (a_n s σ n first 0) (a_d l π tk 0) = a_F s l n first tk ∧ a_k σ n first 0 ≤ n - first ∧ a_e π tk 0 = a_fr tk := by
  refine ⟨a_L_c (fun u => ?_) (fun t => ?_), ?_, ?_⟩
  · exact hσ.2.2 (fun j => decide (first ≤ j) && decide (u < s j))
  · exact hπ.2.2 (fun p => !tk.testBit p && decide (l p ≤ t))
  · have e : a_k σ n first 0 = a_c (fun j => decide (first ≤ j)) 0 n := hσ.2.2 (fun j => decide (first ≤ j))
    rw [e]
    by_cases h : first ≤ n
    · rw [show n = first + (n - first) from by omega, a_c_s, a_c_0 (fun i _ hi => by simp; omega)]
      have := a_c_k (P := fun j => decide (first ≤ j)) (m := n - first) (a := 0 + first)
      omega
    · rw [a_c_0 (fun i _ hi => by simp; omega)]; omega
  · exact hπ.2.2 (fun p => !tk.testBit p)
