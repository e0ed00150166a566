/-! ===== THE REFERENCE READS: letters, blanks, words, figures ===== -/
def z_tx (I : Ii) (B : Nat → Nat) (n : Nat) : Prop := n ≤ 400 ∧ I 139 10 = nI n ∧ (∀ k, k < n → B k < 256) ∧ ((I 139 9 = -1 ∧ ∀ k, k < n → I 144 k = nI (B k)) ∨ (I 139 9 = 484 ∧ ∀ k, k < n → I 140 (484 + k) = nI (B k)))
/-- the reader stands at p -/
def z_A (I : Ii) (p : Nat) : Ii := q_w I 139 11 (nI p)
theorem z_w_w (I : Ii) (a k : Nat) (u v : Int32) : q_w (q_w I a k u) a k v = q_w I a k v := by
  funext b j
  rw [z_w, z_w, z_w]
  split <;> rfl
theorem z_w_id {I : Ii} {a k : Nat} {v : Int32} (h : I a k = v) : q_w I a k v = I := by
  funext b j
  rw [z_w]
  split
  · rename_i e; rw [e.1, e.2, h]
  · rfl
theorem z_w_sw (I : Ii) (a k b j : Nat) (u v : Int32) (h : a ≠ b ∨ k ≠ j) : q_w (q_w I a k u) b j v = q_w (q_w I b j v) a k u := by
  funext c i
  rw [z_w, z_w, z_w, z_w]
  by_cases h1 : c = b ∧ i = j
  · rw [if_pos h1]
    by_cases h2 : c = a ∧ i = k
    · exfalso; omega
    · rw [if_neg h2]; simp [h1]
  · rw [if_neg h1]
    by_cases h2 : c = a ∧ i = k <;> simp [h1, h2]
theorem z_A_A (I : Ii) (p q : Nat) : z_A (z_A I p) q = z_A I q := z_w_w I 139 11 _ _
theorem z_A_w (I : Ii) (p q : Nat) : q_w (z_A I p) 139 11 (nI q) = z_A I q := z_w_w I 139 11 _ _
theorem z_A_id {I : Ii} {p : Nat} (h : I 139 11 = nI p) : z_A I p = I := z_w_id h
theorem z_A_11 (I : Ii) (p : Nat) : z_A I p 139 11 = nI p := z_w_s I 139 11 _
theorem z_A_k (I : Ii) (p k : Nat) (h : k ≠ 11) : z_A I p 139 k = I 139 k := z_w_k I 139 11 _ k h
theorem z_A_a (I : Ii) (p a : Nat) (h : a ≠ 139) : z_A I p a = I a := z_w_a I 139 11 _ a h
theorem z_A_sw (I : Ii) (p k : Nat) (v : Int32) (h : k ≠ 11) : q_w (z_A I p) 139 k v = z_A (q_w I 139 k v) p := z_w_sw I 139 11 139 k _ _ (.inr (Ne.symm h))
theorem z_tx_w {I : Ii} {B : Nat → Nat} {n : Nat} (h : z_tx I B n) (k : Nat) (v : Int32) (h9 : k ≠ 9) (h10 : k ≠ 10) : z_tx (q_w I 139 k v) B n := by
  obtain ⟨h1, h2, h3, h4⟩ := h
  refine ⟨h1, ?_, h3, ?_⟩
  · rw [z_w_k _ _ _ _ _ (Ne.symm h10)]; exact h2
  · rw [z_w_k _ _ _ _ _ (Ne.symm h9), z_w_a _ _ _ _ 144 (by decide), z_w_a _ _ _ _ 140 (by decide)]; exact h4
theorem z_tx_A {I : Ii} {B : Nat → Nat} {n : Nat} (h : z_tx I B n) (p : Nat) : z_tx (z_A I p) B n := z_tx_w h 11 _ (by decide) (by decide)
theorem l_letter (X : Sx) (d : Nat) (I : Ii) (T : Tt) {B : Nat → Nat} {n : Nat} (h : z_tx I B n) (k : Nat) (hk : k < n) : c_X12_letter_139 X (d + 1) (nI k) I T = z_r (nI (B k)) I T := by
  obtain ⟨h1, h2, h3, h4⟩ := h
  rw [e_X12_letter_139]
  rcases h4 with ⟨h4, h5⟩ | ⟨h4, h5⟩
  · simp (disch := omega) only [h4, h5 k hk, q_bd_l, z_ltT, z_ltF, z_eqT, z_eqF, z_ltlT, z_ltlF, z_lltT, z_lltF, z_eqlT, z_eqlF, z_in, z_s1, z_nI_cl, z_nlt0, z_ne_m1, z_b0, z_b1, z_la, z_al, z_lm, z_ml, z_nm, nI_add, pk_mul, ↓reduceIte, not_true_eq_false, not_false_eq_true, true_or, or_true, false_or, or_false, true_and, and_true, and_false, false_and, Classical.not_not, Nat.add_zero, z_01, z_em, z_bit_p, Nat.not_le, Nat.not_lt, reduceCtorEq, if_true, if_false]
  · have h6 : ((484 : Int32) = -1) = False := by decide
    simp (disch := omega) only [h4, h6, h5 k hk, q_bd_l, z_ltT, z_ltF, z_eqT, z_eqF, z_ltlT, z_ltlF, z_lltT, z_lltF, z_eqlT, z_eqlF, z_in, z_s1, z_nI_cl, z_nlt0, z_ne_m1, z_b0, z_b1, z_la, z_al, z_lm, z_ml, z_nm, nI_add, pk_mul, ↓reduceIte, not_true_eq_false, not_false_eq_true, true_or, or_true, false_or, or_false, true_and, and_true, and_false, false_and, Classical.not_not, Nat.add_zero, z_01, z_em, z_bit_p, Nat.not_le, Nat.not_lt, reduceCtorEq, if_true, if_false]
theorem t_sk_sk (B : Nat → Nat) (n p : Nat) : t_sk B n (t_sk B n p) = t_sk B n p := t_scan_id _ _ _ _
theorem t_sk_le {B : Nat → Nat} {n p : Nat} (h : p ≤ n) : t_sk B n p ≤ n := t_scan_le _ _ h
theorem l_skip0 (X : Sx) (d : Nat) (I : Ii) (T : Tt) {B : Nat → Nat} {n : Nat} (h : z_tx I B n) : ∀ m p, p + m = n → c_X12_skip_139_0 X (d + 1) (z_A I p) T = z_v (z_A I (t_sk B n p)) T := by
  intro m
  induction m with
  | zero =>
    intro p hp
    have h2 := h.2.1
    have h1 := h.1
    have e : t_sk B n p = p := t_scan_end (by omega)
    rw [e_X12_skip_139_0, e]
    simp (disch := omega) only [z_A_11, z_A_k, h2, q_bd_l, z_ltT, z_ltF, z_eqT, z_eqF, z_ltlT, z_ltlF, z_lltT, z_lltF, z_eqlT, z_eqlF, z_in, z_s1, z_nI_cl, z_nlt0, z_ne_m1, z_b0, z_b1, z_la, z_al, z_lm, z_ml, z_nm, nI_add, pk_mul, ↓reduceIte, not_true_eq_false, not_false_eq_true, true_or, or_true, false_or, or_false, true_and, and_true, and_false, false_and, Classical.not_not, Nat.add_zero, z_01, z_em, z_bit_p, Nat.not_le, Nat.not_lt, reduceCtorEq, if_true, if_false]
  | succ m ih =>
    intro p hp
    have h2 := h.2.1
    have h1 := h.1
    have h3 := h.2.2.1 p (by omega)
    rw [e_X12_skip_139_0]
    by_cases hb : B p = 32
    · have e : t_sk B n p = t_sk B n (p + 1) := t_scan_y (by omega) (by rw [t_blk_p]; exact hb)
      have h9 : (nI 32 = (32 : Int32)) = True := by decide
      simp (disch := omega) only [e_X12_skip_139_9, k_X12_skip_139_9, z_A_11, z_A_k, h2, l_letter X d (z_A I p) T (z_tx_A h p) p (by omega), hb, z_A_w, h9, q_bd_l, z_ltT, z_ltF, z_eqT, z_eqF, z_ltlT, z_ltlF, z_lltT, z_lltF, z_eqlT, z_eqlF, z_in, z_s1, z_nI_cl, z_nlt0, z_ne_m1, z_b0, z_b1, z_la, z_al, z_lm, z_ml, z_nm, nI_add, pk_mul, ↓reduceIte, not_true_eq_false, not_false_eq_true, true_or, or_true, false_or, or_false, true_and, and_true, and_false, false_and, Classical.not_not, Nat.add_zero, z_01, z_em, z_bit_p, Nat.not_le, Nat.not_lt, reduceCtorEq, if_true, if_false]
      rw [e]
      exact ih (p + 1) (by omega)
    · have e : t_sk B n p = p := t_scan_n (fun a => by have := a.2; rw [t_blk_p] at this; exact hb this)
      simp (disch := omega) only [e_X12_skip_139_9, k_X12_skip_139_9, z_A_11, z_A_k, h2, l_letter X d (z_A I p) T (z_tx_A h p) p (by omega), e, q_bd_l, z_ltT, z_ltF, z_eqT, z_eqF, z_ltlT, z_ltlF, z_lltT, z_lltF, z_eqlT, z_eqlF, z_in, z_s1, z_nI_cl, z_nlt0, z_ne_m1, z_b0, z_b1, z_la, z_al, z_lm, z_ml, z_nm, nI_add, pk_mul, ↓reduceIte, not_true_eq_false, not_false_eq_true, true_or, or_true, false_or, or_false, true_and, and_true, and_false, false_and, Classical.not_not, Nat.add_zero, z_01, z_em, z_bit_p, Nat.not_le, Nat.not_lt, reduceCtorEq, if_true, if_false]
theorem l_skip (X : Sx) (d : Nat) (I : Ii) (T : Tt) {B : Nat → Nat} {n : Nat} (h : z_tx I B n) (p : Nat) (hp : p ≤ n) : c_X12_skip_139 X (d + 2) (z_A I p) T = z_v (z_A I (t_sk B n p)) T := by
  rw [← l_skip0 X d I T h (n - p) p (by omega), e_X12_skip_139, e_X12_skip_139_0]
theorem l_place (X : Sx) (d : Nat) (I : Ii) (T : Tt) {B : Nat → Nat} {n : Nat} (h : z_tx I B n) (p : Nat) (hp : p ≤ n) : c_X12_place_139 X (d + 3) (z_A I p) T = z_r (nI (t_sk B n p)) (z_A I (t_sk B n p)) T := by
  rw [e_X12_place_139, l_skip X d I T h p hp]
  simp (disch := omega) only [e_X12_place_139, e_X12_place_139_2, k_X12_place_139_2, z_A_11, q_bd_l, z_ltT, z_ltF, z_eqT, z_eqF, z_ltlT, z_ltlF, z_lltT, z_lltF, z_eqlT, z_eqlF, z_in, z_s1, z_nI_cl, z_nlt0, z_ne_m1, z_b0, z_b1, z_la, z_al, z_lm, z_ml, z_nm, nI_add, pk_mul, ↓reduceIte, not_true_eq_false, not_false_eq_true, true_or, or_true, false_or, or_false, true_and, and_true, and_false, false_and, Classical.not_not, Nat.add_zero, z_01, z_em, z_bit_p, Nat.not_le, Nat.not_lt, reduceCtorEq, if_true, if_false]
theorem l_isSignN (X : Sx) (d : Nat) (I : Ii) (T : Tt) {B : Nat → Nat} {n : Nat} (h : z_tx I B n) (p : Nat) (hp : p ≤ n) (c : Nat) (hc : c < 256) : c_X12_isSign_139 X (d + 3) (nI c) (z_A I p) T = z_r (z_b (t_isS c B n (t_sk B n p) = true)) (z_A I (t_sk B n p)) T := by
  rw [e_X12_isSign_139, l_skip X d I T h p hp]
  have h2 := h.2.1
  have h1 := h.1
  have hs := t_sk_le (B := B) hp
  by_cases hq : t_sk B n p < n
  · have h3 := h.2.2.1 _ hq
    by_cases hb : B (t_sk B n p) = c
    · simp (disch := omega) only [e_X12_isSign_139, e_X12_isSign_139_2, k_X12_isSign_139_2, e_X12_isSign_139_11, k_X12_isSign_139_11, e_X12_isSign_139_15, z_A_11, z_A_k, h2, l_letter X (d + 1) (z_A I (t_sk B n p)) T (z_tx_A h _) _ hq, hq, hb, t_isS_p, z_b, q_bd_l, z_ltT, z_ltF, z_eqT, z_eqF, z_ltlT, z_ltlF, z_lltT, z_lltF, z_eqlT, z_eqlF, z_in, z_s1, z_nI_cl, z_nlt0, z_ne_m1, z_b0, z_b1, z_la, z_al, z_lm, z_ml, z_nm, nI_add, pk_mul, ↓reduceIte, not_true_eq_false, not_false_eq_true, true_or, or_true, false_or, or_false, true_and, and_true, and_false, false_and, Classical.not_not, Nat.add_zero, z_01, z_em, z_bit_p, Nat.not_le, Nat.not_lt, reduceCtorEq, if_true, if_false]
    · simp (disch := omega) only [e_X12_isSign_139, e_X12_isSign_139_2, k_X12_isSign_139_2, e_X12_isSign_139_11, k_X12_isSign_139_11, e_X12_isSign_139_15, z_A_11, z_A_k, h2, l_letter X (d + 1) (z_A I (t_sk B n p)) T (z_tx_A h _) _ hq, hq, hb, t_isS_p, z_b, q_bd_l, z_ltT, z_ltF, z_eqT, z_eqF, z_ltlT, z_ltlF, z_lltT, z_lltF, z_eqlT, z_eqlF, z_in, z_s1, z_nI_cl, z_nlt0, z_ne_m1, z_b0, z_b1, z_la, z_al, z_lm, z_ml, z_nm, nI_add, pk_mul, ↓reduceIte, not_true_eq_false, not_false_eq_true, true_or, or_true, false_or, or_false, true_and, and_true, and_false, false_and, Classical.not_not, Nat.add_zero, z_01, z_em, z_bit_p, Nat.not_le, Nat.not_lt, reduceCtorEq, if_true, if_false]
  · simp (disch := omega) only [e_X12_isSign_139, e_X12_isSign_139_2, k_X12_isSign_139_2, e_X12_isSign_139_11, k_X12_isSign_139_11, e_X12_isSign_139_15, z_A_11, z_A_k, h2, hq, t_isS_p, z_b, q_bd_l, z_ltT, z_ltF, z_eqT, z_eqF, z_ltlT, z_ltlF, z_lltT, z_lltF, z_eqlT, z_eqlF, z_in, z_s1, z_nI_cl, z_nlt0, z_ne_m1, z_b0, z_b1, z_la, z_al, z_lm, z_ml, z_nm, nI_add, pk_mul, ↓reduceIte, not_true_eq_false, not_false_eq_true, true_or, or_true, false_or, or_false, true_and, and_true, and_false, false_and, Classical.not_not, Nat.add_zero, z_01, z_em, z_bit_p, Nat.not_le, Nat.not_lt, reduceCtorEq, if_true, if_false]
theorem l_isSign (X : Sx) (d : Nat) (I : Ii) (T : Tt) {B : Nat → Nat} {n : Nat} (h : z_tx I B n) (p : Nat) (hp : p ≤ n) (c : Nat) (hc : c < 256) : c_X12_isSign_139 X (d + 3) (no_index (OfNat.ofNat c) : Int32) (z_A I p) T = z_r (z_b (t_isS c B n (t_sk B n p) = true)) (z_A I (t_sk B n p)) T := l_isSignN X d I T h p hp c hc
theorem l_wrong (X : Sx) (d : Nat) (v : Int32) (I : Ii) (T : Tt) (h : I 139 13 = -1) : c_X12_wrong_139 X (d + 1) v I T = z_v (q_w I 139 13 v) T := by
  rw [e_X12_wrong_139]
  simp (disch := omega) only [h, q_bd_l, z_ltT, z_ltF, z_eqT, z_eqF, z_ltlT, z_ltlF, z_lltT, z_lltF, z_eqlT, z_eqlF, z_in, z_s1, z_nI_cl, z_nlt0, z_ne_m1, z_b0, z_b1, z_la, z_al, z_lm, z_ml, z_nm, nI_add, pk_mul, ↓reduceIte, not_true_eq_false, not_false_eq_true, true_or, or_true, false_or, or_false, true_and, and_true, and_false, false_and, Classical.not_not, Nat.add_zero, z_01, z_em, z_bit_p, Nat.not_le, Nat.not_lt, reduceCtorEq, if_true, if_false]
theorem l_has5 (X : Sx) (d : Nat) (u : UInt32) (I : Ii) (T : Tt) {B : Nat → Nat} {n : Nat} (h : z_tx I B n) (s : Nat) : ∀ m k, k + m = n → c_X12_has__139_5 X (d + 1) u (nI k) (z_A I s) T = c_X12_has__139_18 X (d + 1) u (nI (t_scan t_let B n k)) (z_A I s) T := by
  intro m
  induction m with
  | zero =>
    intro k hk
    have h2 := h.2.1
    have h1 := h.1
    have e : t_scan t_let B n k = k := t_scan_end (by omega)
    rw [e_X12_has__139_5, e]
    simp (disch := omega) only [z_A_k, h2, q_bd_l, z_ltT, z_ltF, z_eqT, z_eqF, z_ltlT, z_ltlF, z_lltT, z_lltF, z_eqlT, z_eqlF, z_in, z_s1, z_nI_cl, z_nlt0, z_ne_m1, z_b0, z_b1, z_la, z_al, z_lm, z_ml, z_nm, nI_add, pk_mul, ↓reduceIte, not_true_eq_false, not_false_eq_true, true_or, or_true, false_or, or_false, true_and, and_true, and_false, false_and, Classical.not_not, Nat.add_zero, z_01, z_em, z_bit_p, Nat.not_le, Nat.not_lt, reduceCtorEq, if_true, if_false]
  | succ m ih =>
    intro k hk
    have h2 := h.2.1
    have h1 := h.1
    have h3 := h.2.2.1 k (by omega)
    rw [e_X12_has__139_5]
    by_cases hb : t_let (B k) = true
    · have e : t_scan t_let B n k = t_scan t_let B n (k + 1) := t_scan_y (by omega) hb
      rw [t_let_p] at hb
      simp (disch := omega) only [e_X12_has__139_12, e_X12_has__139_15, k_X12_has__139_12, k_X12_has__139_15, z_A_k, h2, l_letter X d (z_A I s) T (z_tx_A h s) k (by omega), l_isIn, q_bd_l, z_ltT, z_ltF, z_eqT, z_eqF, z_ltlT, z_ltlF, z_lltT, z_lltF, z_eqlT, z_eqlF, z_in, z_s1, z_nI_cl, z_nlt0, z_ne_m1, z_b0, z_b1, z_la, z_al, z_lm, z_ml, z_nm, nI_add, pk_mul, ↓reduceIte, not_true_eq_false, not_false_eq_true, true_or, or_true, false_or, or_false, true_and, and_true, and_false, false_and, Classical.not_not, Nat.add_zero, z_01, z_em, z_bit_p, Nat.not_le, Nat.not_lt, reduceCtorEq, if_true, if_false]
      rw [e]
      exact ih (k + 1) (by omega)
    · have e : t_scan t_let B n k = k := t_scan_n (fun a => hb a.2)
      rw [t_let_p] at hb
      rcases (by omega : B k < 97 ∨ 122 < B k) with h7 | h7
      · simp (disch := omega) only [e_X12_has__139_12, e_X12_has__139_15, k_X12_has__139_12, k_X12_has__139_15, z_A_k, h2, l_letter X d (z_A I s) T (z_tx_A h s) k (by omega), l_isIn, e, q_bd_l, z_ltT, z_ltF, z_eqT, z_eqF, z_ltlT, z_ltlF, z_lltT, z_lltF, z_eqlT, z_eqlF, z_in, z_s1, z_nI_cl, z_nlt0, z_ne_m1, z_b0, z_b1, z_la, z_al, z_lm, z_ml, z_nm, nI_add, pk_mul, ↓reduceIte, not_true_eq_false, not_false_eq_true, true_or, or_true, false_or, or_false, true_and, and_true, and_false, false_and, Classical.not_not, Nat.add_zero, z_01, z_em, z_bit_p, Nat.not_le, Nat.not_lt, reduceCtorEq, if_true, if_false]
      · simp (disch := omega) only [e_X12_has__139_12, e_X12_has__139_15, k_X12_has__139_12, k_X12_has__139_15, z_A_k, h2, l_letter X d (z_A I s) T (z_tx_A h s) k (by omega), l_isIn, e, q_bd_l, z_ltT, z_ltF, z_eqT, z_eqF, z_ltlT, z_ltlF, z_lltT, z_lltF, z_eqlT, z_eqlF, z_in, z_s1, z_nI_cl, z_nlt0, z_ne_m1, z_b0, z_b1, z_la, z_al, z_lm, z_ml, z_nm, nI_add, pk_mul, ↓reduceIte, not_true_eq_false, not_false_eq_true, true_or, or_true, false_or, or_false, true_and, and_true, and_false, false_and, Classical.not_not, Nat.add_zero, z_01, z_em, z_bit_p, Nat.not_le, Nat.not_lt, reduceCtorEq, if_true, if_false]
theorem l_has29 (X : Sx) (d : Nat) (u : UInt32) (w : List Int32) (hu : u.toNat < q_sb.length) (hw : q_sb.getD u.toNat [] = w) (hw9 : w.length < 100) (I : Ii) (T : Tt) {B : Nat → Nat} {n : Nat} (h : z_tx I B n) (s : Nat) (hs : s + w.length ≤ n) : ∀ m k, k + m = w.length → c_X12_has__139_29 X (d + 1) u (nI (s + w.length)) (nI k) (z_A I s) T = if ∀ i, i < w.length → k ≤ i → nI (B (s + i)) = w.getD i 0 then z_r 1 (z_A I (s + w.length)) T else z_r 0 (z_A I s) T := by
  have hu2 : Nat.blt u.toNat q_sb.length = true := by simpa using hu
  intro m
  induction m with
  | zero =>
    intro k hk
    have h1 := h.1
    rw [e_X12_has__139_29, hw, hu2]
    have e : (Int32.ofNat w.length) = nI w.length := rfl
    have e2 : (∀ i, i < w.length → k ≤ i → nI (B (s + i)) = w.getD i 0) = True := eq_true (fun i h1 h2 => by omega)
    simp (disch := omega) only [e, e2, z_A_w, Bool.and_true, cond_true, q_bd_l, z_ltT, z_ltF, z_eqT, z_eqF, z_ltlT, z_ltlF, z_lltT, z_lltF, z_eqlT, z_eqlF, z_in, z_s1, z_nI_cl, z_nlt0, z_ne_m1, z_b0, z_b1, z_la, z_al, z_lm, z_ml, z_nm, nI_add, pk_mul, ↓reduceIte, not_true_eq_false, not_false_eq_true, true_or, or_true, false_or, or_false, true_and, and_true, and_false, false_and, Classical.not_not, Nat.add_zero, z_01, z_em, z_bit_p, Nat.not_le, Nat.not_lt, reduceCtorEq, if_true, if_false]
  | succ m ih =>
    intro k hk
    have h1 := h.1
    rw [e_X12_has__139_29, hw, hu2]
    have e : (Int32.ofNat w.length) = nI w.length := rfl
    have h3 := h.2.2.1 (s + k) (by omega)
    simp (disch := omega) only [e_X12_has__139_39, k_X12_has__139_39, e, z_A_11, Bool.and_true, cond_true, hw, hu2, l_letter X d (z_A I s) T (z_tx_A h s) (s + k) (by omega), q_bd_l, z_ltT, z_ltF, z_eqT, z_eqF, z_ltlT, z_ltlF, z_lltT, z_lltF, z_eqlT, z_eqlF, z_in, z_s1, z_nI_cl, z_nlt0, z_ne_m1, z_b0, z_b1, z_la, z_al, z_lm, z_ml, z_nm, nI_add, pk_mul, ↓reduceIte, not_true_eq_false, not_false_eq_true, true_or, or_true, false_or, or_false, true_and, and_true, and_false, false_and, Classical.not_not, Nat.add_zero, z_01, z_em, z_bit_p, Nat.not_le, Nat.not_lt, reduceCtorEq, if_true, if_false]
    by_cases hb : nI (B (s + k)) = w.getD k 0
    · rw [if_pos hb, ih (k + 1) (by omega)]
      by_cases h5 : ∀ i, i < w.length → k + 1 ≤ i → nI (B (s + i)) = w.getD i 0
      · rw [if_pos h5, if_pos]
        intro i h7 h6
        by_cases h8 : i = k
        · subst h8; exact hb
        · exact h5 i h7 (by omega)
      · rw [if_neg h5, if_neg]
        intro h6
        exact h5 (fun i h7 h8 => h6 i h7 (by omega))
    · rw [if_neg hb, if_neg]
      intro h6
      exact hb (h6 k (by omega) (by omega))
theorem l_hasW (X : Sx) (d : Nat) (u : UInt32) (w : List Int32) (hu : u.toNat < q_sb.length) (hw : q_sb.getD u.toNat [] = w) (hw9 : w.length < 100) (I : Ii) (T : Tt) {B : Nat → Nat} {n : Nat} (h : z_tx I B n) (p : Nat) (hp : p ≤ n) : c_X12_has__139 X (d + 3) u (z_A I p) T = z_r (z_b (t_isW w B n (t_sk B n p) = true)) (z_A I (if t_isW w B n (t_sk B n p) = true then t_sk B n p + w.length else t_sk B n p)) T := by
  have hu2 : Nat.blt u.toNat q_sb.length = true := by simpa using hu
  have h2 := h.2.1
  have h1 := h.1
  have hs := t_sk_le (B := B) hp
  have hg := t_scan_ge t_let B n (t_sk B n p)
  have hl := t_scan_le t_let B hs
  rw [e_X12_has__139, l_skip X d I T h p hp]
  simp (disch := omega) only [e_X12_has__139_2, k_X12_has__139_2, z_A_11, q_bd_l, z_ltT, z_ltF, z_eqT, z_eqF, z_ltlT, z_ltlF, z_lltT, z_lltF, z_eqlT, z_eqlF, z_in, z_s1, z_nI_cl, z_nlt0, z_ne_m1, z_b0, z_b1, z_la, z_al, z_lm, z_ml, z_nm, nI_add, pk_mul, ↓reduceIte, not_true_eq_false, not_false_eq_true, true_or, or_true, false_or, or_false, true_and, and_true, and_false, false_and, Classical.not_not, Nat.add_zero, z_01, z_em, z_bit_p, Nat.not_le, Nat.not_lt, reduceCtorEq, if_true, if_false]
  rw [l_has5 X (d + 1) u I T h _ (n - t_sk B n p) _ (by omega), e_X12_has__139_18, hw, hu2]
  have e : (Int32.ofNat w.length) = nI w.length := rfl
  have e3 : nI (t_scan t_let B n (t_sk B n p)) - nI (t_sk B n p) = nI (t_scan t_let B n (t_sk B n p) - t_sk B n p) := pk_sub hg
  by_cases hc : t_scan t_let B n (t_sk B n p) = t_sk B n p + w.length
  · have e4 : t_scan t_let B n (t_sk B n p) - t_sk B n p = w.length := by omega
    simp (disch := omega) only [e, e3, e4, z_A_11, Bool.and_true, cond_true, q_bd_l, z_ltT, z_ltF, z_eqT, z_eqF, z_ltlT, z_ltlF, z_lltT, z_lltF, z_eqlT, z_eqlF, z_in, z_s1, z_nI_cl, z_nlt0, z_ne_m1, z_b0, z_b1, z_la, z_al, z_lm, z_ml, z_nm, nI_add, pk_mul, ↓reduceIte, not_true_eq_false, not_false_eq_true, true_or, or_true, false_or, or_false, true_and, and_true, and_false, false_and, Classical.not_not, Nat.add_zero, z_01, z_em, z_bit_p, Nat.not_le, Nat.not_lt, reduceCtorEq, if_true, if_false]
    rw [hc]
    refine (l_has29 X (d + 1) u w hu hw hw9 I T h (t_sk B n p) (by omega) w.length 0 (by omega)).trans ?_
    by_cases h5 : ∀ i, i < w.length → 0 ≤ i → nI (B (t_sk B n p + i)) = w.getD i 0
    · have e5 : t_isW w B n (t_sk B n p) = true := by rw [t_isW_p]; exact ⟨hc, fun i hi => h5 i hi (Nat.zero_le _)⟩
      rw [if_pos h5, e5]; rfl
    · have e5 : ¬ t_isW w B n (t_sk B n p) = true := by rw [t_isW_p]; exact fun a => h5 (fun i hi _ => a.2 i hi)
      rw [if_neg h5, if_neg e5, z_b, if_neg e5]
  · have e5 : ¬ t_isW w B n (t_sk B n p) = true := by rw [t_isW_p]; exact fun a => hc a.1
    have e6 : (nI (t_scan t_let B n (t_sk B n p) - t_sk B n p) = nI w.length) = False := z_eqF _ _ (by omega) (by omega) (by omega)
    simp (disch := omega) only [e, e3, e6, z_A_11, Bool.and_true, cond_true, e5, z_b, q_bd_l, z_ltT, z_ltF, z_eqT, z_eqF, z_ltlT, z_ltlF, z_lltT, z_lltF, z_eqlT, z_eqlF, z_in, z_s1, z_nI_cl, z_nlt0, z_ne_m1, z_b0, z_b1, z_la, z_al, z_lm, z_ml, z_nm, nI_add, pk_mul, ↓reduceIte, not_true_eq_false, not_false_eq_true, true_or, or_true, false_or, or_false, true_and, and_true, and_false, false_and, Classical.not_not, Nat.add_zero, z_01, z_em, z_bit_p, Nat.not_le, Nat.not_lt, reduceCtorEq, if_true, if_false]
