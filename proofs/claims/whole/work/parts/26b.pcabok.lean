/-! ===== THE CABINET'S TEXT: rows that it gives ===== -/
theorem c_nm_le {B : Nat → Nat} {N p h : Nat} {lo : Int32} (hh : h < 100000) (hN : t_isN lo (nI h) 4 B N p = true) : z_le (c_nm B N p) h := by
  have hb := (t_isN_lt hN).2.2.2.1
  rw [t_isN_p] at hN
  obtain ⟨h1, h2, h3, h4⟩ := hN
  refine ⟨t_num B p (t_nf B N p), ?_, rfl⟩
  rw [z_nI_lt _ _ (by omega) (by omega)] at h4
  omega
theorem c_nm_ge {B : Nat → Nat} {N p l h : Nat} (hl : l < 100000) (hN : t_isN (nI l) (nI h) 4 B N p = true) : l ≤ t_num B p (t_nf B N p) := by
  have hb := (t_isN_lt hN).2.2.2.1
  rw [t_isN_p] at hN
  obtain ⟨h1, h2, h3, h4⟩ := hN
  rw [z_nI_lt _ _ (by omega) (by omega)] at h3
  omega
theorem c_dig {B : Nat → Nat} {N p t : Nat} (h : t_nf B N p = 6) (ht : t < 6) : z_le (nI (B (p + t)) - 48) 9 ∧ p + t < N := by
  have hnf : t_nf B N p = t_scan t_dig B N p - p := rfl
  obtain ⟨h1, h2, -⟩ := t_scan_in (P := t_dig) (B := B) (n := N) (p := p) (q := p + t) (by omega) (by omega)
  rw [t_dig_p] at h2
  have e : nI (B (p + t)) - 48 = nI (B (p + t) - 48) := pk_sub (b := 48) (by omega)
  rw [e]
  exact ⟨z_le_nI (by omega), h1⟩
theorem c_lq_le (B : Nat → Nat) (N p : Nat) : c_lq B N p ≤ 3 := by
  unfold c_lq
  split
  · omega
  · split
    · omega
    · split <;> omega
theorem R_ok_put {B : Nat → Nat} {N p n m : Nat} {lq pl sp so se : Int32} {r : Nat → Int32} (h : R_ok r n m) (hn : n < 10) (h1 : z_le lq 2) (h2 : z_le pl 11) (h3 : z_le sp 20) (h4 : z_le so 99) (h5 : z_le se 9) (h6 : t_nf B N p = 6) : R_ok (C_put B p n lq pl sp so se r) (n + 1) m := by
  obtain ⟨a1, a2, a3, a4, a5, a6, a7, a8, a9, a10, a11, a12⟩ := h
  obtain ⟨f0, f1, f2, f3, f4, f5, f6⟩ := C_put_f B p n lq pl sp so se r
  have o := C_put_o B p n lq pl sp so se r
  refine ⟨C_put_3 .., by omega, by rw [o 4 (by omega) (by omega)]; exact a3, a4, by rw [o 0 (by omega) (by omega)]; exact a5, by rw [o 5 (by omega) (by omega)]; exact a6, by rw [o 6 (by omega) (by omega)]; exact a7, by rw [o 7 (by omega) (by omega)]; exact a8, by rw [o 10 (by omega) (by omega)]; exact a9, fun q hq => by rw [o (142 + q) (by omega) (by omega)]; exact a10 q hq, fun j hj => ?_, fun k hk => by rw [o (154 + 3 * k + 1) (by omega) (by omega), o (154 + 3 * k + 2) (by omega) (by omega)]; exact a12 k hk⟩
  by_cases e : j = n
  · subst e
    refine ⟨by rw [f0]; exact h1, by rw [f1]; exact h2, by rw [f2]; exact h3, by rw [f3]; exact h4, by rw [f4]; exact h5, .inr ⟨j, by omega, f5⟩, by rw [f6]; exact ⟨0, by omega, rfl⟩, fun t ht => ?_⟩
    rw [C_put_t _ _ _ _ _ _ _ _ _ _ ht]
    exact (c_dig h6 ht).1
  · obtain ⟨b1, b2, b3, b4, b5, b6, b7, b8⟩ := a11 j (by omega)
    refine ⟨by rw [o _ (by omega) (by omega)]; exact b1, by rw [o _ (by omega) (by omega)]; exact b2, by rw [o _ (by omega) (by omega)]; exact b3, by rw [o _ (by omega) (by omega)]; exact b4, by rw [o _ (by omega) (by omega)]; exact b5, ?_, by rw [o _ (by omega) (by omega)]; exact b7, fun t ht => by rw [o _ (by omega) (by omega)]; exact b8 t ht⟩
    rw [o _ (by omega) (by omega)]
    rcases b6 with b6 | ⟨k, k1, k2⟩
    · exact .inl b6
    · exact .inr ⟨k, by omega, k2⟩
theorem C_o_put (B : Nat → Nat) (p n : Nat) (lq pl sp so se : Int32) (r : Nat → Int32) (hn : n < 10) : C_o r (C_put B p n lq pl sp so se r) := ⟨fun i hi => C_put_o _ _ _ _ _ _ _ _ _ i (by omega) (by omega), fun i h1 h2 _ _ _ _ => C_put_o _ _ _ _ _ _ _ _ _ i h2 (by omega)⟩
/-- the row with a need more -/
def C_nd (m : Nat) (a b c : Int32) (r : Nat → Int32) : Nat → Int32 := va_up (va_up (va_up (va_up r (154 + 3 * m + 0) a) (154 + 3 * m + 1) b) (154 + 3 * m + 2) c) 4 (nI (m + 1))
theorem C_nd_o (m : Nat) (a b c : Int32) (r : Nat → Int32) (i : Nat) (h4 : i ≠ 4) (h : i < 154 + 3 * m ∨ 154 + 3 * m + 3 ≤ i) : C_nd m a b c r i = r i := by
  unfold C_nd
  rw [z_up_o _ _ h4, z_up_o _ _ (by omega), z_up_o _ _ (by omega), z_up_o _ _ (by omega)]
theorem C_nd_f (m : Nat) (a b c : Int32) (r : Nat → Int32) : C_nd m a b c r 4 = nI (m + 1) ∧ C_nd m a b c r (154 + 3 * m) = a ∧ C_nd m a b c r (154 + 3 * m + 1) = b ∧ C_nd m a b c r (154 + 3 * m + 2) = c := by
  unfold C_nd
  refine ⟨z_up_s _ _ _, ?_, ?_, ?_⟩
  · rw [z_up_o _ _ (by omega), z_up_o _ _ (by omega), z_up_o _ _ (by omega)]; exact z_up_s _ _ _
  · rw [z_up_o _ _ (by omega), z_up_o _ _ (by omega)]; exact z_up_s _ _ _
  · rw [z_up_o _ _ (by omega)]; exact z_up_s _ _ _
theorem R_ok_nd {n m : Nat} {a b c : Int32} {r : Nat → Int32} (h : R_ok r n m) (hm : m < 10) (h1 : z_le b 5) (h2 : z_le c 9) : R_ok (C_nd m a b c r) n (m + 1) := by
  obtain ⟨a1, a2, a3, a4, a5, a6, a7, a8, a9, a10, a11, a12⟩ := h
  obtain ⟨f0, f1, f2, f3⟩ := C_nd_f m a b c r
  have o := C_nd_o m a b c r
  refine ⟨by rw [o 3 (by omega) (by omega)]; exact a1, a2, f0, by omega, by rw [o 0 (by omega) (by omega)]; exact a5, by rw [o 5 (by omega) (by omega)]; exact a6, by rw [o 6 (by omega) (by omega)]; exact a7, by rw [o 7 (by omega) (by omega)]; exact a8, by rw [o 10 (by omega) (by omega)]; exact a9, fun q hq => by rw [o (142 + q) (by omega) (by omega)]; exact a10 q hq, fun j hj => ?_, fun k hk => ?_⟩
  · obtain ⟨b1, b2, b3, b4, b5, b6, b7, b8⟩ := a11 j hj
    exact ⟨by rw [o _ (by omega) (by omega)]; exact b1, by rw [o _ (by omega) (by omega)]; exact b2, by rw [o _ (by omega) (by omega)]; exact b3, by rw [o _ (by omega) (by omega)]; exact b4, by rw [o _ (by omega) (by omega)]; exact b5, by rw [o _ (by omega) (by omega)]; exact b6, by rw [o _ (by omega) (by omega)]; exact b7, fun t ht => by rw [o _ (by omega) (by omega)]; exact b8 t ht⟩
  · by_cases e : k = m
    · subst e; rw [f2, f3]; exact ⟨h1, h2⟩
    · rw [o _ (by omega) (by omega), o _ (by omega) (by omega)]; exact a12 k (by omega)
theorem C_o_nd (m : Nat) (a b c : Int32) (r : Nat → Int32) (hm : m < 10) : C_o r (C_nd m a b c r) := ⟨fun i hi => C_nd_o _ _ _ _ _ i (by omega) (by omega), fun i h1 _ h2 _ _ _ => C_nd_o _ _ _ _ _ i h2 (by omega)⟩
/-- one of the single numbers -/
def C_1 (i : Nat) (v : Int32) : Prop := (∃ q, q < 12 ∧ i = 142 + q ∧ z_le v 9) ∨ (i = 5 ∧ ∃ q, 1 ≤ q ∧ q ≤ 90 ∧ v = nI q) ∨ (i = 6 ∧ z_le v 100) ∨ (i = 7 ∧ z_le v 100)
theorem R_ok_1 {n m i : Nat} {v : Int32} {r : Nat → Int32} (h : R_ok r n m) (hi : C_1 i v) : R_ok (va_up r i v) n m := by
  obtain ⟨a1, a2, a3, a4, a5, a6, a7, a8, a9, a10, a11, a12⟩ := h
  have hr : i = 5 ∨ i = 6 ∨ i = 7 ∨ (142 ≤ i ∧ i < 154) := by
    rcases hi with ⟨q, h1, h2, -⟩ | ⟨h, -⟩ | ⟨h, -⟩ | ⟨h, -⟩ <;> omega
  have o : ∀ k, k ≠ i → va_up r i v k = r k := fun k hk => z_up_o _ _ hk
  refine ⟨by rw [o 3 (by omega)]; exact a1, a2, by rw [o 4 (by omega)]; exact a3, a4, by rw [o 0 (by omega)]; exact a5, ?_, ?_, ?_, by rw [o 10 (by omega)]; exact a9, fun q hq => ?_, fun j hj => ?_, fun k hk => ?_⟩
  · by_cases e : i = 5
    · subst e
      rw [z_up_s]
      rcases hi with ⟨q, h1, h2, -⟩ | ⟨-, h⟩ | ⟨h, -⟩ | ⟨h, -⟩
      · omega
      · exact h
      · omega
      · omega
    · rw [o 5 (fun c => e c.symm)]; exact a6
  · by_cases e : i = 6
    · subst e
      rw [z_up_s]
      rcases hi with ⟨q, h1, h2, -⟩ | ⟨h, -⟩ | ⟨-, h⟩ | ⟨h, -⟩
      · omega
      · omega
      · exact h
      · omega
    · rw [o 6 (fun c => e c.symm)]; exact a7
  · by_cases e : i = 7
    · subst e
      rw [z_up_s]
      rcases hi with ⟨q, h1, h2, -⟩ | ⟨h, -⟩ | ⟨h, -⟩ | ⟨-, h⟩
      · omega
      · omega
      · omega
      · exact h
    · rw [o 7 (fun c => e c.symm)]; exact a8
  · by_cases e : 142 + q = i
    · rw [← e, z_up_s]
      rcases hi with ⟨q, h1, h2, h⟩ | ⟨h, -⟩ | ⟨h, -⟩ | ⟨h, -⟩
      · exact h
      · omega
      · omega
      · omega
    · rw [o _ e]; exact a10 q hq
  · obtain ⟨b1, b2, b3, b4, b5, b6, b7, b8⟩ := a11 j hj
    exact ⟨by rw [o _ (by omega)]; exact b1, by rw [o _ (by omega)]; exact b2, by rw [o _ (by omega)]; exact b3, by rw [o _ (by omega)]; exact b4, by rw [o _ (by omega)]; exact b5, by rw [o _ (by omega)]; exact b6, by rw [o _ (by omega)]; exact b7, fun t ht => by rw [o _ (by omega)]; exact b8 t ht⟩
  · rw [o _ (by omega), o _ (by omega)]; exact a12 k hk
theorem C_o_1 {i : Nat} {v : Int32} {r : Nat → Int32} (hi : C_1 i v) : C_o r (va_up r i v) := by
  have hr : i = 5 ∨ i = 6 ∨ i = 7 ∨ (142 ≤ i ∧ i < 154) := by
    rcases hi with ⟨q, h1, h2, -⟩ | ⟨h, -⟩ | ⟨h, -⟩ | ⟨h, -⟩ <;> omega
  exact ⟨fun k hk => z_up_o _ _ (by omega), fun k _ _ _ _ _ _ => z_up_o _ _ (by omega)⟩
theorem C_aft_ok {B : Nat → Nat} {N i p a h : Nat} (hh : h < 100000) (e : C_aft B N i (nI h) p = .ok a) : a = t_nx B N p ∧ t_isW (t_w i) B N p = true ∧ t_isN 0 (nI h) 4 B N a = true ∧ z_le (c_nm B N a) h := by
  unfold C_aft at e
  split at e
  · split at e
    · rename_i h1 h2
      cases e
      exact ⟨rfl, h1, h2, c_nm_le hh h2⟩
    · cases e
  · cases e
theorem C_tell_ok {B : Nat → Nat} {N i p q : Nat} {lo hi : Int32} {r r' : Nat → Int32} (e : C_tell B N i lo hi r p = .ok (q, r')) : q = t_nx B N p ∧ r' = va_up r i (c_nm B N p) ∧ t_isN lo hi 4 B N p = true := by
  unfold C_tell at e
  split at e
  · rename_i h1
    cases e
    exact ⟨rfl, rfl, h1⟩
  · cases e
theorem C_line_ok {B : Nat → Nat} {N n m p q : Nat} {r r' : Nat → Int32} (h : R_ok r n m) (hp : p ≤ N) (e : C_line B N n m r p = .ok (q, r')) : (∃ n' m', R_ok r' n' m') ∧ C_o r r' ∧ q ≤ N ∧ t_at B N q := by
  have nx : ∀ {p}, p ≤ N → t_nx B N p ≤ N := fun h => t_nx_le h
  have fin : ∀ {p}, p ≤ N → t_nx B N p ≤ N ∧ t_at B N (t_nx B N p) := fun h => ⟨t_nx_le h, t_nx_at h⟩
  have tell : ∀ {i p lo h2 q r'}, p ≤ N → C_tell B N i lo (nI h2) r p = .ok (q, r') → (t_isN lo (nI h2) 4 B N p = true → C_1 i (c_nm B N p)) → (∃ n' m', R_ok r' n' m') ∧ C_o r r' ∧ q ≤ N ∧ t_at B N q := by
    intro i p lo h2 q r' hp e h1
    obtain ⟨rfl, rfl, h3⟩ := C_tell_ok e
    exact ⟨⟨n, m, R_ok_1 h (h1 h3)⟩, C_o_1 (h1 h3), fin hp⟩
  unfold C_line at e
  split at e
  · split at e
    · cases e
    · rename_i hn
      have hn : n < 10 := by have := h.2.1; omega
      unfold C_jar at e
      split at e
      · cases e
      · rename_i hlq
        split at e
        · split at e
          · rename_i hpl
            split at e
            · cases e
            · unfold C_jar2 at e
              split at e
              · cases e
              · rename_i a ha
                split at e
                · cases e
                · rename_i b hb
                  split at e
                  · cases e
                  · rename_i c hc
                    obtain ⟨rfl, -, -, a4⟩ := C_aft_ok (h := 20) (by omega) ha
                    obtain ⟨rfl, -, -, b4⟩ := C_aft_ok (h := 99) (by omega) hb
                    obtain ⟨rfl, -, -, c4⟩ := C_aft_ok (h := 9) (by omega) hc
                    unfold C_jar3 at e
                    split at e
                    · split at e
                      · rename_i h6
                        cases e
                        have hq := c_lq_le B N (t_nx B N p)
                        exact ⟨⟨n + 1, m, R_ok_put h hn (z_le_nI (by omega)) (c_nm_le (h := 11) (by omega) hpl) a4 b4 c4 h6⟩, C_o_put _ _ _ _ _ _ _ _ _ hn, fin (by repeat (first | exact hp | apply t_nx_le))⟩
                      · cases e
                    · cases e
          · cases e
        · cases e
  · split at e
    · split at e
      · rename_i h1
        obtain ⟨x, hx1, hx2⟩ := c_nm_le (h := 11) (by omega) h1
        have hx3 := (t_isN_lt h1).2.2.2.1
        have hx4 : t_num B (t_nx B N p) (t_nf B N (t_nx B N p)) = x := by
          have : (nI (t_num B (t_nx B N p) (t_nf B N (t_nx B N p))) = nI x) = _ := z_nI_eq _ _ (by omega) (by omega)
          exact this.mp hx2
        exact tell (h2 := 9) (nx (nx hp)) e (fun h3 => .inl ⟨x, by omega, by rw [hx4], c_nm_le (by omega) h3⟩)
      · cases e
    · split at e
      · split at e
        · cases e
        · rename_i hm
          have hm : m < 10 := by have := h.2.2.2.1; omega
          unfold C_need at e
          split at e
          · split at e
            · rename_i h2
              split at e
              · rename_i h3
                cases e
                exact ⟨⟨n, m + 1, R_ok_nd h hm (c_nm_le (h := 5) (by omega) h2) (c_nm_le (h := 9) (by omega) h3)⟩, C_o_nd m _ _ _ r hm, fin (nx (nx (nx hp)))⟩
              · cases e
            · cases e
          · cases e
      · split at e
        · exact tell (h2 := 90) (nx hp) e (fun h3 => .inr (.inl ⟨rfl, by
            obtain ⟨x, hx1, hx2⟩ := c_nm_le (h := 90) (by omega) h3
            have hx3 := (t_isN_lt h3).2.2.2.1
            exact ⟨_, c_nm_ge (l := 1) (h := 90) (by omega) h3, by
              have : (nI (t_num B (t_nx B N p) (t_nf B N (t_nx B N p))) = nI x) = _ := z_nI_eq _ _ (by omega) (by omega)
              have := this.mp hx2
              omega, rfl⟩⟩))
        · split at e
          · exact tell (h2 := 100) (nx hp) e (fun h3 => .inr (.inr (.inl ⟨rfl, c_nm_le (by omega) h3⟩)))
          · split at e
            · exact tell (h2 := 100) (nx hp) e (fun h3 => .inr (.inr (.inr ⟨rfl, c_nm_le (by omega) h3⟩)))
            · cases e
