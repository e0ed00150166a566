/-! ===== TEXTS: things in a row of bytes B of length n ===== -/
def t_sc (P : Nat → Bool) (B : Nat → Nat) (n : Nat) : Nat → Nat → Nat
  | 0, p => p
  | f + 1, p => if p < n ∧ P (B p) = true then t_sc P B n f (p + 1) else p
def t_scan (P : Nat → Bool) (B : Nat → Nat) (n p : Nat) : Nat := t_sc P B n (n - p) p
theorem t_scan_eq (P : Nat → Bool) (B : Nat → Nat) (n p : Nat) : t_scan P B n p = if p < n ∧ P (B p) = true then t_scan P B n (p + 1) else p := by
  unfold t_scan
  by_cases h : p < n
  · have e : n - p = (n - (p + 1)) + 1 := by omega
    rw [e]; rfl
  · have e : n - p = 0 := by omega
    rw [e, if_neg (fun a => h a.1)]; rfl
theorem t_scan_y {P : Nat → Bool} {B : Nat → Nat} {n p : Nat} (h : p < n) (h2 : P (B p) = true) : t_scan P B n p = t_scan P B n (p + 1) := by
  rw [t_scan_eq, if_pos ⟨h, h2⟩]
theorem t_scan_n {P : Nat → Bool} {B : Nat → Nat} {n p : Nat} (h : ¬ (p < n ∧ P (B p) = true)) : t_scan P B n p = p := by
  rw [t_scan_eq, if_neg h]
theorem t_scan_end {P : Nat → Bool} {B : Nat → Nat} {n p : Nat} (h : n ≤ p) : t_scan P B n p = p := t_scan_n (fun a => absurd a.1 (by omega))
theorem t_scan_all (P : Nat → Bool) (B : Nat → Nat) (n : Nat) : ∀ m p, p + m = n ∨ n ≤ p → p ≤ t_scan P B n p ∧ (p ≤ n → t_scan P B n p ≤ n) ∧ (∀ q, p ≤ q → q < t_scan P B n p → q < n ∧ P (B q) = true ∧ t_scan P B n q = t_scan P B n p) ∧ ¬ (t_scan P B n p < n ∧ P (B (t_scan P B n p)) = true) := by
  intro m
  induction m with
  | zero =>
    intro p h
    have h' : n ≤ p := by omega
    rw [t_scan_end h']
    exact ⟨by omega, by omega, fun q h1 h2 => by omega, fun a => absurd a.1 (by omega)⟩
  | succ m ih =>
    intro p h
    by_cases hp : p < n ∧ P (B p) = true
    · obtain ⟨h1, h2, h3, h4⟩ := ih (p + 1) (by omega)
      have e := t_scan_y hp.1 hp.2
      rw [e]
      refine ⟨by omega, fun _ => h2 (by omega), fun q hq1 hq2 => ?_, h4⟩
      by_cases hq : q = p
      · subst hq; exact ⟨hp.1, hp.2, e⟩
      · exact h3 q (by omega) hq2
    · rw [t_scan_n hp]
      exact ⟨by omega, fun h => h, fun q h1 h2 => by omega, hp⟩
theorem t_scan_ge (P : Nat → Bool) (B : Nat → Nat) (n p : Nat) : p ≤ t_scan P B n p := (t_scan_all P B n (n - p) p (by omega)).1
theorem t_scan_le (P : Nat → Bool) (B : Nat → Nat) {n p : Nat} (h : p ≤ n) : t_scan P B n p ≤ n := (t_scan_all P B n (n - p) p (by omega)).2.1 h
theorem t_scan_in {P : Nat → Bool} {B : Nat → Nat} {n p q : Nat} (h : p ≤ q) (h2 : q < t_scan P B n p) : q < n ∧ P (B q) = true ∧ t_scan P B n q = t_scan P B n p := (t_scan_all P B n (n - p) p (by omega)).2.2.1 q h h2
theorem t_scan_out (P : Nat → Bool) (B : Nat → Nat) (n p : Nat) : ¬ (t_scan P B n p < n ∧ P (B (t_scan P B n p)) = true) := (t_scan_all P B n (n - p) p (by omega)).2.2.2
theorem t_scan_id (P : Nat → Bool) (B : Nat → Nat) (n p : Nat) : t_scan P B n (t_scan P B n p) = t_scan P B n p := t_scan_n (t_scan_out P B n p)
theorem t_scan_mid {P : Nat → Bool} {B : Nat → Nat} {n p q : Nat} (h : p ≤ q) (h2 : q ≤ t_scan P B n p) : t_scan P B n q = t_scan P B n p := by
  rcases Nat.lt_or_eq_of_le h2 with h3 | h3
  · exact (t_scan_in h h3).2.2
  · rw [h3]; exact t_scan_id P B n p
def t_blk (c : Nat) : Bool := c == 32
def t_let (c : Nat) : Bool := Nat.ble 97 c && Nat.ble c 122
def t_dig (c : Nat) : Bool := Nat.ble 48 c && Nat.ble c 57
theorem t_let_p (c : Nat) : (t_let c = true) = (97 ≤ c ∧ c ≤ 122) := by simp [t_let]
theorem t_dig_p (c : Nat) : (t_dig c = true) = (48 ≤ c ∧ c ≤ 57) := by simp [t_dig]
theorem t_blk_p (c : Nat) : (t_blk c = true) = (c = 32) := by simp [t_blk]
/-- past the blanks -/
def t_sk (B : Nat → Nat) (n p : Nat) : Nat := t_scan t_blk B n p
/-- behind the thing at p -/
def t_end (B : Nat → Nat) (n p : Nat) : Nat := if n ≤ p then p else if t_let (B p) = true then t_scan t_let B n p else if t_dig (B p) = true then t_scan t_dig B n p else p + 1
/-- the next thing -/
def t_nx (B : Nat → Nat) (n p : Nat) : Nat := t_sk B n (t_end B n p)
/-- no blank there -/
def t_at (B : Nat → Nat) (n p : Nat) : Prop := p ≤ n ∧ (p < n → B p ≠ 32)
theorem t_at_sk {B : Nat → Nat} {n p : Nat} (h : p ≤ n) : t_at B n (t_sk B n p) := by
  refine ⟨t_scan_le _ _ h, fun h2 e => t_scan_out t_blk B n p ⟨h2, ?_⟩⟩
  rw [t_blk_p]; exact e
theorem t_sk_at {B : Nat → Nat} {n p : Nat} (h : t_at B n p) : t_sk B n p = p := t_scan_n (fun a => by
  have := a.2
  rw [t_blk_p] at this
  exact h.2 a.1 this)
theorem t_end_le {B : Nat → Nat} {n p : Nat} (h : p ≤ n) : t_end B n p ≤ n := by
  unfold t_end
  split
  · exact h
  · split
    · exact t_scan_le _ _ h
    · split
      · exact t_scan_le _ _ h
      · omega
theorem t_end_gt {B : Nat → Nat} {n p : Nat} (h : p < n) : p < t_end B n p := by
  unfold t_end
  rw [if_neg (by omega)]
  split
  · rename_i h2
    rw [t_scan_y h h2]
    exact t_scan_ge _ _ _ _
  · split
    · rename_i h2
      rw [t_scan_y h h2]
      exact t_scan_ge _ _ _ _
    · omega
theorem t_nx_gt {B : Nat → Nat} {n p : Nat} (h : p < n) : p < t_nx B n p := Nat.lt_of_lt_of_le (t_end_gt h) (t_scan_ge _ _ _ _)
theorem t_nx_at {B : Nat → Nat} {n p : Nat} (h : p ≤ n) : t_at B n (t_nx B n p) := t_at_sk (t_end_le h)
theorem t_nx_le {B : Nat → Nat} {n p : Nat} (h : p ≤ n) : t_nx B n p ≤ n := (t_nx_at h).1
/-- a sign, a word, figures -/
def t_isS (c : Nat) (B : Nat → Nat) (n p : Nat) : Bool := Nat.blt p n && B p == c
def t_isW (w : List Int32) (B : Nat → Nat) (n p : Nat) : Bool := decide (t_scan t_let B n p = p + w.length ∧ ∀ i, i < w.length → nI (B (p + i)) = w.getD i 0)
def t_num (B : Nat → Nat) (p : Nat) : Nat → Nat
  | 0 => 0
  | m + 1 => 10 * t_num B p m + B (p + m) - 48
/-- how many figures -/
def t_nf (B : Nat → Nat) (n p : Nat) : Nat := t_scan t_dig B n p - p
def t_isN (lo hi : Int32) (dg : Nat) (B : Nat → Nat) (n p : Nat) : Bool := decide (0 < t_nf B n p ∧ t_nf B n p ≤ dg ∧ ¬ nI (t_num B p (t_nf B n p)) < lo ∧ ¬ hi < nI (t_num B p (t_nf B n p)))
theorem t_isS_p (c : Nat) (B : Nat → Nat) (n p : Nat) : (t_isS c B n p = true) = (p < n ∧ B p = c) := by simp [t_isS]
theorem t_isW_p (w : List Int32) (B : Nat → Nat) (n p : Nat) : (t_isW w B n p = true) = (t_scan t_let B n p = p + w.length ∧ ∀ i, i < w.length → nI (B (p + i)) = w.getD i 0) := by simp [t_isW]
theorem t_isN_p (lo hi : Int32) (dg : Nat) (B : Nat → Nat) (n p : Nat) : (t_isN lo hi dg B n p = true) = (0 < t_nf B n p ∧ t_nf B n p ≤ dg ∧ ¬ nI (t_num B p (t_nf B n p)) < lo ∧ ¬ hi < nI (t_num B p (t_nf B n p))) := by simp [t_isN]
