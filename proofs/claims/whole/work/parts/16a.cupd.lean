/-! ===== THE CLASS: years. Rows and cells changed together ===== -/
theorem z_abs_c (x : Int32) : (if 0 ≤ x then x else 0 - x) = z_sz x := by
  unfold z_sz
  by_cases h : x < 0
  · have h2 : ¬ 0 ≤ x := Int32.not_le.mpr h
    rw [if_neg h2, if_pos h, Int32.zero_sub]
  · have h2 : 0 ≤ x := by rw [← Int32.not_lt]; exact h
    rw [if_pos h2, if_neg h]
theorem z_99_c (a : Int32) : (if a < 99 then a else 99) = z_99 a := by
  unfold z_99
  have t : ∀ x y : Int32, (x < y) = (x.toInt < y.toInt) := fun x y => propext Int32.lt_iff_toInt_lt
  have e : (99 : Int32).toInt = 99 := rfl
  simp only [t, e]
  by_cases h1 : a.toInt < 99
  · rw [if_pos h1, if_neg (by omega)]
  · rw [if_neg h1]
    by_cases h2 : (99 : Int) < a.toInt
    · rw [if_pos h2]
    · rw [if_neg h2]; exact Int32.toInt_inj.mp (by rw [e]; omega)
theorem z_99_le {a : Int32} (h : ¬ a < 0) : z_le (z_99 a) 99 := by
  unfold z_99
  split
  · exact ⟨99, Nat.le_refl _, rfl⟩
  · rename_i h2
    obtain ⟨k, hk, rfl⟩ := nI_of h
    rw [show (99 : Int32) = nI 99 from rfl, z_nI_lt 99 k (by omega) hk] at h2
    exact ⟨k, by omega, rfl⟩
theorem ru_ne {r : Nat → Int32} {i k : Nat} {v : Int32} (h : k ≠ i) : va_up r i v k = r k := by unfold va_up; rw [if_neg h]
theorem ru_s (r : Nat → Int32) (i : Nat) (v : Int32) : va_up r i v i = v := by unfold va_up; rw [if_pos rfl]
/-- cells of a row that belong to a Moment -/
def r_mc (i : Nat) : Prop := i = 8 ∨ i = 9 ∨ i = 10 ∨ i = 11 ∨ (∃ j w, j < 10 ∧ i = 12 + 13 * j + w ∧ (w = 1 ∨ w = 2 ∨ w = 3 ∨ w = 5 ∨ w = 6)) ∨ (184 ≤ i ∧ i < 484)
theorem z_Sh_up {I : Ii} {sh : Nat} {r : Nat → Int32} {n m i : Nat} (h : z_Sh I sh r n m) (hn : n ≤ 10) (hm : m ≤ 10) (hi : r_mc i) (v : Int32) : z_Sh I sh (va_up r i v) n m := by
  obtain ⟨a1, a2, a3, a4, a5, a6, a7, a8, a9, a10, a11, a12, a13⟩ := h
  have ne : ∀ k, ((k = 0 ∨ k = 3 ∨ k = 4 ∨ k = 5 ∨ k = 6 ∨ k = 7) ∨ (∃ j w, j < n ∧ k = 12 + 13 * j + w ∧ (w = 0 ∨ w = 4 ∨ (7 ≤ w ∧ w < 13))) ∨ (142 ≤ k ∧ k < 184)) → va_up r i v k = r k := by
    intro k hk
    refine ru_ne (fun e => ?_)
    subst e
    rcases hk with hk | ⟨j', w', hj', e', hw'⟩ | hk <;> rcases hi with hi | hi | hi | hi | ⟨j, w, hj, e, hw⟩ | hi <;> omega
  refine ⟨by rw [ne 3 (.inl (by omega))]; exact a1, by rw [ne 4 (.inl (by omega))]; exact a2, by rw [ne 5 (.inl (by omega))]; exact a3, by rw [ne 6 (.inl (by omega))]; exact a4, by rw [ne 7 (.inl (by omega))]; exact a5, by rw [ne 0 (.inl (by omega))]; exact a6, ?_, ?_, ?_, ?_, ?_, ?_, ?_⟩
  · intro j hj; rw [ne _ (.inr (.inl ⟨j, 0, hj, by omega, by omega⟩))]; exact a7 j hj
  · intro j hj; rw [ne _ (.inr (.inl ⟨j, 4, hj, by omega, by omega⟩))]; exact a8 j hj
  · intro j t hj ht; rw [ne _ (.inr (.inl ⟨j, 7 + t, hj, by omega, by omega⟩))]; exact a9 j t hj ht
  · intro p hp; rw [ne _ (.inr (.inr (by omega)))]; exact a10 p hp
  · intro k hk; rw [ne _ (.inr (.inr (by omega)))]; exact a11 k hk
  · intro k hk; rw [ne _ (.inr (.inr (by omega)))]; exact a12 k hk
  · intro k hk; rw [ne _ (.inr (.inr (by omega)))]; exact a13 k hk
theorem z_Sh_fr {I J : Ii} {sh : Nat} {r : Nat → Int32} {n m : Nat} (h : z_Sh I sh r n m) (hf : ∀ a, sh ≤ a → a ≤ sh + 7 → J a = I a) : z_Sh J sh r n m := by
  unfold z_Sh at h ⊢
  rw [hf sh (by omega) (by omega), hf (sh + 1) (by omega) (by omega), hf (sh + 2) (by omega) (by omega), hf (sh + 3) (by omega) (by omega), hf (sh + 4) (by omega) (by omega), hf (sh + 5) (by omega) (by omega), hf (sh + 6) (by omega) (by omega), hf (sh + 7) (by omega) (by omega)]
  exact h
theorem z_Mo_fr {I J : Ii} {mo : Nat} {r : Nat → Int32} {n : Nat} (h : z_Mo I mo r n) (hf : ∀ a, mo ≤ a → a ≤ mo + 4 → J a = I a) : z_Mo J mo r n := by
  unfold z_Mo at h ⊢
  rw [hf mo (by omega) (by omega), hf (mo + 1) (by omega) (by omega), hf (mo + 2) (by omega) (by omega), hf (mo + 3) (by omega) (by omega), hf (mo + 4) (by omega) (by omega)]
  exact h
theorem R_ls_up {r : Nat → Int32} {k : Nat} (h3 : 3 ≤ k) (hk : k < 484) (v : Int32) : R_ls (va_up r k v) = R_ls r := by
  unfold R_ls
  rw [r_text_up hk v, ru_ne (by omega : 2 ≠ k)]
theorem z_La_up {I : Ii} {la : Nat} {r : Nat → Int32} (h : z_La I la r) {k : Nat} (h3 : 3 ≤ k) (hk : k < 484) (v : Int32) : z_La I la (va_up r k v) := by
  unfold z_La at h ⊢
  rw [R_ls_up h3 hk v, ru_ne (by omega : 1 ≠ k)]
  exact ⟨R_lo_up h.1 h3 hk v, h.2⟩
theorem z_La_fr {I J : Ii} {la : Nat} {r : Nat → Int32} (h : z_La I la r) (h0 : J la 0 = I la 0) (hf : ∀ a, la < a → a ≤ la + 4 → J a = I a) : z_La J la r := by
  unfold z_La at h ⊢
  rw [h0, hf (la + 1) (by omega) (by omega), hf (la + 2) (by omega) (by omega), hf (la + 3) (by omega) (by omega), hf (la + 4) (by omega) (by omega)]
  exact h
theorem R_ok_w1 {r : Nat → Int32} {n m : Nat} (h : R_ok r n m) (j : Nat) (hj : j < n) (v : Int32) (hv : z_le v 11) : R_ok (va_up r (12 + 13 * j + 1) v) n m := by
  obtain ⟨b1, b2, b3, b4, b5, b6, b7, b8, b9, b10, b11, b12⟩ := h
  refine ⟨by rw [ru_ne (by omega)]; exact b1, b2, by rw [ru_ne (by omega)]; exact b3, b4, by rw [ru_ne (by omega)]; exact b5, by rw [ru_ne (by omega)]; exact b6, by rw [ru_ne (by omega)]; exact b7, by rw [ru_ne (by omega)]; exact b8, by rw [ru_ne (by omega)]; exact b9, fun p hp => by rw [ru_ne (by omega)]; exact b10 p hp, fun i hi => ?_, fun k hk => ⟨by rw [ru_ne (by omega)]; exact (b12 k hk).1, by rw [ru_ne (by omega)]; exact (b12 k hk).2⟩⟩
  obtain ⟨a1, a2, a3, a4, a5, a6, a7, a8⟩ := b11 i hi
  by_cases e : i = j
  · subst e
    refine ⟨?_, ?_, ?_, ?_, ?_, ?_, ?_, fun t ht => ?_⟩
    · rw [ru_ne (by omega)]; exact a1
    · rw [ru_s]; exact hv
    · rw [ru_ne (by omega)]; exact a3
    · rw [ru_ne (by omega)]; exact a4
    · rw [ru_ne (by omega)]; exact a5
    · rw [ru_ne (by omega)]; exact a6
    · rw [ru_ne (by omega)]; exact a7
    · rw [ru_ne (by omega)]; exact a8 t ht
  · exact ⟨by rw [ru_ne (by omega)]; exact a1, by rw [ru_ne (by omega)]; exact a2, by rw [ru_ne (by omega)]; exact a3, by rw [ru_ne (by omega)]; exact a4, by rw [ru_ne (by omega)]; exact a5, by rw [ru_ne (by omega)]; exact a6, by rw [ru_ne (by omega)]; exact a7, fun t ht => by rw [ru_ne (by omega)]; exact a8 t ht⟩
theorem R_ok_w2 {r : Nat → Int32} {n m : Nat} (h : R_ok r n m) (j : Nat) (hj : j < n) (v : Int32) (hv : z_le v 20) : R_ok (va_up r (12 + 13 * j + 2) v) n m := by
  obtain ⟨b1, b2, b3, b4, b5, b6, b7, b8, b9, b10, b11, b12⟩ := h
  refine ⟨by rw [ru_ne (by omega)]; exact b1, b2, by rw [ru_ne (by omega)]; exact b3, b4, by rw [ru_ne (by omega)]; exact b5, by rw [ru_ne (by omega)]; exact b6, by rw [ru_ne (by omega)]; exact b7, by rw [ru_ne (by omega)]; exact b8, by rw [ru_ne (by omega)]; exact b9, fun p hp => by rw [ru_ne (by omega)]; exact b10 p hp, fun i hi => ?_, fun k hk => ⟨by rw [ru_ne (by omega)]; exact (b12 k hk).1, by rw [ru_ne (by omega)]; exact (b12 k hk).2⟩⟩
  obtain ⟨a1, a2, a3, a4, a5, a6, a7, a8⟩ := b11 i hi
  by_cases e : i = j
  · subst e
    refine ⟨?_, ?_, ?_, ?_, ?_, ?_, ?_, fun t ht => ?_⟩
    · rw [ru_ne (by omega)]; exact a1
    · rw [ru_ne (by omega)]; exact a2
    · rw [ru_s]; exact hv
    · rw [ru_ne (by omega)]; exact a4
    · rw [ru_ne (by omega)]; exact a5
    · rw [ru_ne (by omega)]; exact a6
    · rw [ru_ne (by omega)]; exact a7
    · rw [ru_ne (by omega)]; exact a8 t ht
  · exact ⟨by rw [ru_ne (by omega)]; exact a1, by rw [ru_ne (by omega)]; exact a2, by rw [ru_ne (by omega)]; exact a3, by rw [ru_ne (by omega)]; exact a4, by rw [ru_ne (by omega)]; exact a5, by rw [ru_ne (by omega)]; exact a6, by rw [ru_ne (by omega)]; exact a7, fun t ht => by rw [ru_ne (by omega)]; exact a8 t ht⟩
theorem R_ok_w3 {r : Nat → Int32} {n m : Nat} (h : R_ok r n m) (j : Nat) (hj : j < n) (v : Int32) (hv : z_le v 99) : R_ok (va_up r (12 + 13 * j + 3) v) n m := by
  obtain ⟨b1, b2, b3, b4, b5, b6, b7, b8, b9, b10, b11, b12⟩ := h
  refine ⟨by rw [ru_ne (by omega)]; exact b1, b2, by rw [ru_ne (by omega)]; exact b3, b4, by rw [ru_ne (by omega)]; exact b5, by rw [ru_ne (by omega)]; exact b6, by rw [ru_ne (by omega)]; exact b7, by rw [ru_ne (by omega)]; exact b8, by rw [ru_ne (by omega)]; exact b9, fun p hp => by rw [ru_ne (by omega)]; exact b10 p hp, fun i hi => ?_, fun k hk => ⟨by rw [ru_ne (by omega)]; exact (b12 k hk).1, by rw [ru_ne (by omega)]; exact (b12 k hk).2⟩⟩
  obtain ⟨a1, a2, a3, a4, a5, a6, a7, a8⟩ := b11 i hi
  by_cases e : i = j
  · subst e
    refine ⟨?_, ?_, ?_, ?_, ?_, ?_, ?_, fun t ht => ?_⟩
    · rw [ru_ne (by omega)]; exact a1
    · rw [ru_ne (by omega)]; exact a2
    · rw [ru_ne (by omega)]; exact a3
    · rw [ru_s]; exact hv
    · rw [ru_ne (by omega)]; exact a5
    · rw [ru_ne (by omega)]; exact a6
    · rw [ru_ne (by omega)]; exact a7
    · rw [ru_ne (by omega)]; exact a8 t ht
  · exact ⟨by rw [ru_ne (by omega)]; exact a1, by rw [ru_ne (by omega)]; exact a2, by rw [ru_ne (by omega)]; exact a3, by rw [ru_ne (by omega)]; exact a4, by rw [ru_ne (by omega)]; exact a5, by rw [ru_ne (by omega)]; exact a6, by rw [ru_ne (by omega)]; exact a7, fun t ht => by rw [ru_ne (by omega)]; exact a8 t ht⟩
theorem R_ok_w5 {r : Nat → Int32} {n m : Nat} (h : R_ok r n m) (j : Nat) (hj : j < n) (v : Int32) (hv : v = -1 ∨ ∃ k, k < n ∧ v = nI k) : R_ok (va_up r (12 + 13 * j + 5) v) n m := by
  obtain ⟨b1, b2, b3, b4, b5, b6, b7, b8, b9, b10, b11, b12⟩ := h
  refine ⟨by rw [ru_ne (by omega)]; exact b1, b2, by rw [ru_ne (by omega)]; exact b3, b4, by rw [ru_ne (by omega)]; exact b5, by rw [ru_ne (by omega)]; exact b6, by rw [ru_ne (by omega)]; exact b7, by rw [ru_ne (by omega)]; exact b8, by rw [ru_ne (by omega)]; exact b9, fun p hp => by rw [ru_ne (by omega)]; exact b10 p hp, fun i hi => ?_, fun k hk => ⟨by rw [ru_ne (by omega)]; exact (b12 k hk).1, by rw [ru_ne (by omega)]; exact (b12 k hk).2⟩⟩
  obtain ⟨a1, a2, a3, a4, a5, a6, a7, a8⟩ := b11 i hi
  by_cases e : i = j
  · subst e
    refine ⟨?_, ?_, ?_, ?_, ?_, ?_, ?_, fun t ht => ?_⟩
    · rw [ru_ne (by omega)]; exact a1
    · rw [ru_ne (by omega)]; exact a2
    · rw [ru_ne (by omega)]; exact a3
    · rw [ru_ne (by omega)]; exact a4
    · rw [ru_ne (by omega)]; exact a5
    · rw [ru_s]; exact hv
    · rw [ru_ne (by omega)]; exact a7
    · rw [ru_ne (by omega)]; exact a8 t ht
  · exact ⟨by rw [ru_ne (by omega)]; exact a1, by rw [ru_ne (by omega)]; exact a2, by rw [ru_ne (by omega)]; exact a3, by rw [ru_ne (by omega)]; exact a4, by rw [ru_ne (by omega)]; exact a5, by rw [ru_ne (by omega)]; exact a6, by rw [ru_ne (by omega)]; exact a7, fun t ht => by rw [ru_ne (by omega)]; exact a8 t ht⟩
theorem R_ok_w6 {r : Nat → Int32} {n m : Nat} (h : R_ok r n m) (j : Nat) (hj : j < n) (v : Int32) (hv : z_le v 1) : R_ok (va_up r (12 + 13 * j + 6) v) n m := by
  obtain ⟨b1, b2, b3, b4, b5, b6, b7, b8, b9, b10, b11, b12⟩ := h
  refine ⟨by rw [ru_ne (by omega)]; exact b1, b2, by rw [ru_ne (by omega)]; exact b3, b4, by rw [ru_ne (by omega)]; exact b5, by rw [ru_ne (by omega)]; exact b6, by rw [ru_ne (by omega)]; exact b7, by rw [ru_ne (by omega)]; exact b8, by rw [ru_ne (by omega)]; exact b9, fun p hp => by rw [ru_ne (by omega)]; exact b10 p hp, fun i hi => ?_, fun k hk => ⟨by rw [ru_ne (by omega)]; exact (b12 k hk).1, by rw [ru_ne (by omega)]; exact (b12 k hk).2⟩⟩
  obtain ⟨a1, a2, a3, a4, a5, a6, a7, a8⟩ := b11 i hi
  by_cases e : i = j
  · subst e
    refine ⟨?_, ?_, ?_, ?_, ?_, ?_, ?_, fun t ht => ?_⟩
    · rw [ru_ne (by omega)]; exact a1
    · rw [ru_ne (by omega)]; exact a2
    · rw [ru_ne (by omega)]; exact a3
    · rw [ru_ne (by omega)]; exact a4
    · rw [ru_ne (by omega)]; exact a5
    · rw [ru_ne (by omega)]; exact a6
    · rw [ru_s]; exact hv
    · rw [ru_ne (by omega)]; exact a8 t ht
  · exact ⟨by rw [ru_ne (by omega)]; exact a1, by rw [ru_ne (by omega)]; exact a2, by rw [ru_ne (by omega)]; exact a3, by rw [ru_ne (by omega)]; exact a4, by rw [ru_ne (by omega)]; exact a5, by rw [ru_ne (by omega)]; exact a6, by rw [ru_ne (by omega)]; exact a7, fun t ht => by rw [ru_ne (by omega)]; exact a8 t ht⟩
theorem R_ok_A {r : Nat → Int32} {n m : Nat} (h : R_ok r n m) (i : Nat) (hi : i = 1 ∨ i = 2 ∨ i = 8 ∨ i = 9 ∨ i = 11 ∨ 184 ≤ i) (v : Int32) : R_ok (va_up r i v) n m := by
  obtain ⟨b1, b2, b3, b4, b5, b6, b7, b8, b9, b10, b11, b12⟩ := h
  refine ⟨by rw [ru_ne (by omega)]; exact b1, b2, by rw [ru_ne (by omega)]; exact b3, b4, by rw [ru_ne (by omega)]; exact b5, by rw [ru_ne (by omega)]; exact b6, by rw [ru_ne (by omega)]; exact b7, by rw [ru_ne (by omega)]; exact b8, by rw [ru_ne (by omega)]; exact b9, fun p hp => by rw [ru_ne (by omega)]; exact b10 p hp, fun j hj => ?_, fun k hk => ⟨by rw [ru_ne (by omega)]; exact (b12 k hk).1, by rw [ru_ne (by omega)]; exact (b12 k hk).2⟩⟩
  obtain ⟨a1, a2, a3, a4, a5, a6, a7, a8⟩ := b11 j hj
  exact ⟨by rw [ru_ne (by omega)]; exact a1, by rw [ru_ne (by omega)]; exact a2, by rw [ru_ne (by omega)]; exact a3, by rw [ru_ne (by omega)]; exact a4, by rw [ru_ne (by omega)]; exact a5, by rw [ru_ne (by omega)]; exact a6, by rw [ru_ne (by omega)]; exact a7, fun t ht => by rw [ru_ne (by omega)]; exact a8 t ht⟩
theorem z_Mo_w1 {I : Ii} {mo : Nat} {r : Nat → Int32} {n : Nat} (h : z_Mo I mo r n) (hn : n ≤ 10) (j : Nat) (hj : j < n) (v : Int32) : z_Mo (q_w I (mo + 1) j v) mo (va_up r (12 + 13 * j + 1) v) n := by
  obtain ⟨b1, b2, b3, b4, b5, b6, b7, b8, o, b9, b10, b11⟩ := h
  have em : q_w I (mo + 1) j v mo = I mo := z_w_a _ _ _ _ _ (by omega)
  refine ⟨by rw [em, ru_ne (by omega)]; exact b1, by rw [em, ru_ne (by omega)]; exact b2, by rw [em, ru_ne (by omega)]; exact b3, by rw [em, ru_ne (by omega)]; exact b4, ?_, ?_, ?_, ?_, o, b9, by rw [em]; exact b10, fun i hi => by rw [ru_ne (by omega)]; exact b11 i hi⟩
  · intro i hi
    by_cases e : i = j
    · subst e; rw [z_w_s, ru_s]
    · rw [z_w_k _ _ _ _ _ e, ru_ne (by omega)]; exact b5 i hi
  · intro i hi
    rw [z_w_a _ _ _ _ _ (by omega), ru_ne (by omega)]; exact b6 i hi
  · intro i hi
    rw [z_w_a _ _ _ _ _ (by omega), ru_ne (by omega)]; exact b7 i hi
  · intro i hi
    rw [z_w_a _ _ _ _ _ (by omega), ru_ne (by omega)]; exact b8 i hi
theorem z_Mo_w2 {I : Ii} {mo : Nat} {r : Nat → Int32} {n : Nat} (h : z_Mo I mo r n) (hn : n ≤ 10) (j : Nat) (hj : j < n) (v : Int32) : z_Mo (q_w I (mo + 2) j v) mo (va_up r (12 + 13 * j + 2) v) n := by
  obtain ⟨b1, b2, b3, b4, b5, b6, b7, b8, o, b9, b10, b11⟩ := h
  have em : q_w I (mo + 2) j v mo = I mo := z_w_a _ _ _ _ _ (by omega)
  refine ⟨by rw [em, ru_ne (by omega)]; exact b1, by rw [em, ru_ne (by omega)]; exact b2, by rw [em, ru_ne (by omega)]; exact b3, by rw [em, ru_ne (by omega)]; exact b4, ?_, ?_, ?_, ?_, o, b9, by rw [em]; exact b10, fun i hi => by rw [ru_ne (by omega)]; exact b11 i hi⟩
  · intro i hi
    rw [z_w_a _ _ _ _ _ (by omega), ru_ne (by omega)]; exact b5 i hi
  · intro i hi
    by_cases e : i = j
    · subst e; rw [z_w_s, ru_s]
    · rw [z_w_k _ _ _ _ _ e, ru_ne (by omega)]; exact b6 i hi
  · intro i hi
    rw [z_w_a _ _ _ _ _ (by omega), ru_ne (by omega)]; exact b7 i hi
  · intro i hi
    rw [z_w_a _ _ _ _ _ (by omega), ru_ne (by omega)]; exact b8 i hi
theorem z_Mo_w3 {I : Ii} {mo : Nat} {r : Nat → Int32} {n : Nat} (h : z_Mo I mo r n) (hn : n ≤ 10) (j : Nat) (hj : j < n) (v : Int32) : z_Mo (q_w I (mo + 3) j v) mo (va_up r (12 + 13 * j + 3) v) n := by
  obtain ⟨b1, b2, b3, b4, b5, b6, b7, b8, o, b9, b10, b11⟩ := h
  have em : q_w I (mo + 3) j v mo = I mo := z_w_a _ _ _ _ _ (by omega)
  refine ⟨by rw [em, ru_ne (by omega)]; exact b1, by rw [em, ru_ne (by omega)]; exact b2, by rw [em, ru_ne (by omega)]; exact b3, by rw [em, ru_ne (by omega)]; exact b4, ?_, ?_, ?_, ?_, o, b9, by rw [em]; exact b10, fun i hi => by rw [ru_ne (by omega)]; exact b11 i hi⟩
  · intro i hi
    rw [z_w_a _ _ _ _ _ (by omega), ru_ne (by omega)]; exact b5 i hi
  · intro i hi
    rw [z_w_a _ _ _ _ _ (by omega), ru_ne (by omega)]; exact b6 i hi
  · intro i hi
    by_cases e : i = j
    · subst e; rw [z_w_s, ru_s]
    · rw [z_w_k _ _ _ _ _ e, ru_ne (by omega)]; exact b7 i hi
  · intro i hi
    rw [z_w_a _ _ _ _ _ (by omega), ru_ne (by omega)]; exact b8 i hi
theorem z_Mo_w5 {I : Ii} {mo : Nat} {r : Nat → Int32} {n : Nat} (h : z_Mo I mo r n) (hn : n ≤ 10) (j : Nat) (hj : j < n) (v : Int32) : z_Mo (q_w I (mo + 4) j v) mo (va_up r (12 + 13 * j + 5) v) n := by
  obtain ⟨b1, b2, b3, b4, b5, b6, b7, b8, o, b9, b10, b11⟩ := h
  have em : q_w I (mo + 4) j v mo = I mo := z_w_a _ _ _ _ _ (by omega)
  refine ⟨by rw [em, ru_ne (by omega)]; exact b1, by rw [em, ru_ne (by omega)]; exact b2, by rw [em, ru_ne (by omega)]; exact b3, by rw [em, ru_ne (by omega)]; exact b4, ?_, ?_, ?_, ?_, o, b9, by rw [em]; exact b10, fun i hi => by rw [ru_ne (by omega)]; exact b11 i hi⟩
  · intro i hi
    rw [z_w_a _ _ _ _ _ (by omega), ru_ne (by omega)]; exact b5 i hi
  · intro i hi
    rw [z_w_a _ _ _ _ _ (by omega), ru_ne (by omega)]; exact b6 i hi
  · intro i hi
    rw [z_w_a _ _ _ _ _ (by omega), ru_ne (by omega)]; exact b7 i hi
  · intro i hi
    by_cases e : i = j
    · subst e; rw [z_w_s, ru_s]
    · rw [z_w_k _ _ _ _ _ e, ru_ne (by omega)]; exact b8 i hi
theorem z_Mo_year {I : Ii} {mo : Nat} {r : Nat → Int32} {n : Nat} (h : z_Mo I mo r n) (v : Int32) : z_Mo (q_w I mo 5 v) mo (va_up r 8 v) n := by
  obtain ⟨b1, b2, b3, b4, b5, b6, b7, b8, o, b9, b10, b11⟩ := h
  refine ⟨by rw [z_w_s, ru_s], by rw [z_w_k _ _ _ _ _ (by decide), ru_ne (by decide)]; exact b2, by rw [z_w_k _ _ _ _ _ (by decide), ru_ne (by decide)]; exact b3, by rw [z_w_k _ _ _ _ _ (by decide), ru_ne (by decide)]; exact b4, ?_, ?_, ?_, ?_, o, b9, by rw [z_w_k _ _ _ _ _ (by decide)]; exact b10, fun i hi => by rw [ru_ne (by omega)]; exact b11 i hi⟩
  · intro i hi; rw [z_w_a _ _ _ _ _ (by omega), ru_ne (by omega)]; exact b5 i hi
  · intro i hi; rw [z_w_a _ _ _ _ _ (by omega), ru_ne (by omega)]; exact b6 i hi
  · intro i hi; rw [z_w_a _ _ _ _ _ (by omega), ru_ne (by omega)]; exact b7 i hi
  · intro i hi; rw [z_w_a _ _ _ _ _ (by omega), ru_ne (by omega)]; exact b8 i hi
theorem z_Mo_el {I : Ii} {mo : Nat} {r : Nat → Int32} {n : Nat} (h : z_Mo I mo r n) (v : Int32) : z_Mo (q_w I mo 7 v) mo (va_up r 9 v) n := by
  obtain ⟨b1, b2, b3, b4, b5, b6, b7, b8, o, b9, b10, b11⟩ := h
  refine ⟨by rw [z_w_k _ _ _ _ _ (by decide), ru_ne (by decide)]; exact b1, by rw [z_w_s, ru_s], by rw [z_w_k _ _ _ _ _ (by decide), ru_ne (by decide)]; exact b3, by rw [z_w_k _ _ _ _ _ (by decide), ru_ne (by decide)]; exact b4, ?_, ?_, ?_, ?_, o, b9, by rw [z_w_k _ _ _ _ _ (by decide)]; exact b10, fun i hi => by rw [ru_ne (by omega)]; exact b11 i hi⟩
  · intro i hi; rw [z_w_a _ _ _ _ _ (by omega), ru_ne (by omega)]; exact b5 i hi
  · intro i hi; rw [z_w_a _ _ _ _ _ (by omega), ru_ne (by omega)]; exact b6 i hi
  · intro i hi; rw [z_w_a _ _ _ _ _ (by omega), ru_ne (by omega)]; exact b7 i hi
  · intro i hi; rw [z_w_a _ _ _ _ _ (by omega), ru_ne (by omega)]; exact b8 i hi
theorem z_Mo_seed {I : Ii} {mo : Nat} {r : Nat → Int32} {n : Nat} (h : z_Mo I mo r n) (v : Int32) : z_Mo (q_w I mo 6 v) mo (va_up r 11 v) n := by
  obtain ⟨b1, b2, b3, b4, b5, b6, b7, b8, o, b9, b10, b11⟩ := h
  refine ⟨by rw [z_w_k _ _ _ _ _ (by decide), ru_ne (by decide)]; exact b1, by rw [z_w_k _ _ _ _ _ (by decide), ru_ne (by decide)]; exact b2, by rw [z_w_s, ru_s], by rw [z_w_k _ _ _ _ _ (by decide), ru_ne (by decide)]; exact b4, ?_, ?_, ?_, ?_, o, b9, by rw [z_w_k _ _ _ _ _ (by decide)]; exact b10, fun i hi => by rw [ru_ne (by omega)]; exact b11 i hi⟩
  · intro i hi; rw [z_w_a _ _ _ _ _ (by omega), ru_ne (by omega)]; exact b5 i hi
  · intro i hi; rw [z_w_a _ _ _ _ _ (by omega), ru_ne (by omega)]; exact b6 i hi
  · intro i hi; rw [z_w_a _ _ _ _ _ (by omega), ru_ne (by omega)]; exact b7 i hi
  · intro i hi; rw [z_w_a _ _ _ _ _ (by omega), ru_ne (by omega)]; exact b8 i hi
