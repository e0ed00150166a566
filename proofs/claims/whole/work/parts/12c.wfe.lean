/-! ===== conditions that were read; fuel ===== -/
def o_and (a c : Nat) : Nat := if a = 0 then 0 else c
def o_or (a c : Nat) : Nat := if a = 0 then c else 1
theorem z_and_n {a c : Nat} (ha : a < 2) (hc : c < 2) : z_and (nI a) (nI c) = nI (o_and a c) ∧ o_and a c < 2 := by
  rcases (by omega : a = 0 ∨ a = 1) with rfl | rfl <;> rcases (by omega : c = 0 ∨ c = 1) with rfl | rfl <;> decide
theorem z_or_n {a c : Nat} (ha : a < 2) (hc : c < 2) : z_or (nI a) (nI c) = nI (o_or a c) ∧ o_or a c < 2 := by
  rcases (by omega : a = 0 ∨ a = 1) with rfl | rfl <;> rcases (by omega : c = 0 ∨ c = 1) with rfl | rfl <;> decide
theorem z_not_n {c : Nat} (hc : c < 2) : z_not (nI c) = nI (1 - c) ∧ 1 - c < 2 := by
  rcases (by omega : c = 0 ∨ c = 1) with rfl | rfl <;> decide
theorem o_and_a (a b c : Nat) : o_and (o_and a b) c = o_and a (o_and b c) := by
  unfold o_and; by_cases h : a = 0 <;> simp [h]
theorem o_or_a (a b c : Nat) : o_or (o_or a b) c = o_or a (o_or b c) := by
  unfold o_or; by_cases h : a = 0 <;> simp [h]
theorem P_e_w (B : Nat → Nat) (n : Nat) : ∀ (f dp p : Nat) (v : Pv), dp ≤ 6 →
    (P_e B n f 0 dp p = some (.ok v) → w_b B n (2 * dp + 2) p v) ∧ (P_e B n f 1 dp p = some (.ok v) → w_b B n (2 * dp + 1) p v) ∧ (P_e B n f 2 dp p = some (.ok v) → w_b B n (2 * dp) p v) ∧
    (t_at B n p → P_e B n f 3 dp p = some (.ok v) → w_t B n (2 * dp + 1) p o_and v) ∧ (t_at B n p → P_e B n f 4 dp p = some (.ok v) → w_t B n (2 * dp) p o_or v) := by
  intro f
  induction f with
  | zero => intro dp p v _; exact ⟨fun h => (by cases h), fun h => (by cases h), fun h => (by cases h), fun _ h => (by cases h), fun _ h => (by cases h)⟩
  | succ f ih =>
    intro dp p v hd
    have pw : ∀ e, e ≤ 16 → (2 : Nat) ^ e ≤ 65536 := fun e he => Nat.le_trans (Nat.pow_le_pow_right (by decide) he) (by decide)
    refine ⟨?_, ?_, ?_, ?_, ?_⟩
    · intro h
      unfold P_e at h
      split at h
      · rename_i hW
        split at h
        · cases h
        · rename_i h6
          obtain ⟨a, ha, h⟩ := p_bd_ok h
          cases h
          obtain ⟨a1, a2, a3, a4, a5⟩ := (ih (dp + 1) _ a (by omega)).1 ha
          have hn := (t_isW_nx (w := t_w 64) (by decide) hW).1
          have hl : (t_w 64).length = 3 := by decide
          refine ⟨by show p < a.1; omega, a2, ?_, ?_, ?_⟩
          · show 0 < (a.2.1 ++ [1204]).length
            rw [List.length_append]; omega
          · show (a.2.1 ++ [1204]).length ≤ a.1 - p + 1
            rw [List.length_append, List.length_singleton]; omega
          · intro fc hf
            obtain ⟨c, c1, c2, c3⟩ := a5 fc hf
            refine ⟨1 - c, (z_not_n c1).2, ?_, fun x hx l => ?_⟩
            · show z_not (a.2.2 fc) = _
              rw [c2]; exact (z_not_n c1).1
            · obtain ⟨l', hl'⟩ := c3 x (Nat.lt_of_lt_of_le hx (Nat.pow_le_pow_right (by decide) (by omega))) l
              refine ⟨l', ?_⟩
              show (a.2.1 ++ [1204]).foldl (e_stp fc) (nI x, l, 0) = _
              rw [List.foldl_append, hl', List.foldl_cons, List.foldl_nil, e_not fc x c c1]
      · split at h
        · rename_i hS
          split at h
          · cases h
          · rename_i h6
            obtain ⟨a, ha, h⟩ := p_bd_ok h
            split at h
            · rename_i hS2
              cases h
              obtain ⟨a1, a2, a3, a4, a5⟩ := (ih (dp + 1) _ a (by omega)).2.2.1 ha
              have hn := t_isS_nx hS
              have hn2 := t_isS_nx hS2
              refine ⟨by show p < t_nx B n a.1; omega, hn2.2.2, a3, ?_, ?_⟩
              · show a.2.1.length ≤ t_nx B n a.1 - p + 1
                omega
              · intro fc hf
                obtain ⟨c, c1, c2, c3⟩ := a5 fc hf
                exact ⟨c, c1, c2, fun x hx l => c3 x (by rw [show 2 * (dp + 1) = 2 * dp + 2 by omega]; exact hx) l⟩
            · cases h
        · exact P_plain_w (by omega) h
    · intro h
      obtain ⟨a, ha, h⟩ := p_bd_ok h
      obtain ⟨b, hb, h⟩ := p_bd_ok h
      cases h
      obtain ⟨a1, a2, a3, a4, a5⟩ := (ih dp _ a hd).1 ha
      obtain ⟨b1, b2, b3, b5⟩ := (ih dp _ b hd).2.2.2.1 a2 hb
      refine ⟨by show p < b.1; omega, b2, ?_, ?_, ?_⟩
      · show 0 < (a.2.1 ++ b.2.1).length
        rw [List.length_append]; omega
      · show (a.2.1 ++ b.2.1).length ≤ b.1 - p + 1
        rw [List.length_append]; omega
      · intro fc hf
        obtain ⟨c, c1, c2, c3⟩ := a5 fc hf
        obtain ⟨k, k1, k2, k3⟩ := b5 fc hf
        refine ⟨o_and c k, (z_and_n c1 k1).2, ?_, fun x hx l => ?_⟩
        · show z_and (a.2.2 fc) (b.2.2 fc) = _
          rw [c2, k2]; exact (z_and_n c1 k1).1
        · obtain ⟨l1, hl1⟩ := c3 x (Nat.lt_of_lt_of_le hx (Nat.pow_le_pow_right (by decide) (by omega))) l
          obtain ⟨l2, hl2⟩ := k3 x hx c c1 l1
          refine ⟨l2, ?_⟩
          show (a.2.1 ++ b.2.1).foldl (e_stp fc) (nI x, l, 0) = _
          rw [List.foldl_append, hl1, hl2]
    · intro h
      obtain ⟨a, ha, h⟩ := p_bd_ok h
      obtain ⟨b, hb, h⟩ := p_bd_ok h
      cases h
      obtain ⟨a1, a2, a3, a4, a5⟩ := (ih dp _ a hd).2.1 ha
      obtain ⟨b1, b2, b3, b5⟩ := (ih dp _ b hd).2.2.2.2 a2 hb
      refine ⟨by show p < b.1; omega, b2, ?_, ?_, ?_⟩
      · show 0 < (a.2.1 ++ b.2.1).length
        rw [List.length_append]; omega
      · show (a.2.1 ++ b.2.1).length ≤ b.1 - p + 1
        rw [List.length_append]; omega
      · intro fc hf
        obtain ⟨c, c1, c2, c3⟩ := a5 fc hf
        obtain ⟨k, k1, k2, k3⟩ := b5 fc hf
        refine ⟨o_or c k, (z_or_n c1 k1).2, ?_, fun x hx l => ?_⟩
        · show z_or (a.2.2 fc) (b.2.2 fc) = _
          rw [c2, k2]; exact (z_or_n c1 k1).1
        · obtain ⟨l1, hl1⟩ := c3 x (Nat.lt_of_lt_of_le hx (Nat.pow_le_pow_right (by decide) (by omega))) l
          obtain ⟨l2, hl2⟩ := k3 x hx c c1 l1
          refine ⟨l2, ?_⟩
          show (a.2.1 ++ b.2.1).foldl (e_stp fc) (nI x, l, 0) = _
          rw [List.foldl_append, hl1, hl2]
    · intro hp h
      unfold P_e at h
      split at h
      · rename_i hW
        obtain ⟨a, ha, h⟩ := p_bd_ok h
        obtain ⟨b, hb, h⟩ := p_bd_ok h
        cases h
        obtain ⟨a1, a2, a3, a4, a5⟩ := (ih dp _ a hd).1 ha
        obtain ⟨b1, b2, b3, b5⟩ := (ih dp _ b hd).2.2.2.1 a2 hb
        have hn := (t_isW_nx (w := t_w 65) (by decide) hW).1
        have hl : (t_w 65).length = 3 := by decide
        refine ⟨by show p ≤ b.1; omega, b2, ?_, ?_⟩
        · show (a.2.1 ++ 1205 :: b.2.1).length ≤ b.1 - p
          rw [List.length_append, List.length_cons]; omega
        · intro fc hf
          obtain ⟨c, c1, c2, c3⟩ := a5 fc hf
          obtain ⟨k, k1, k2, k3⟩ := b5 fc hf
          refine ⟨o_and c k, (z_and_n c1 k1).2, ?_, fun x hx y hy l => ?_⟩
          · show z_and (a.2.2 fc) (b.2.2 fc) = _
            rw [c2, k2]; exact (z_and_n c1 k1).1
          · have hx2 := pw (2 * dp + 1) (by omega)
            obtain ⟨l1, hl1⟩ := c3 (2 * x + y) (by rw [show 2 * dp + 2 = (2 * dp + 1) + 1 by omega, Nat.pow_succ]; omega) l
            obtain ⟨l2, hl2⟩ := k3 x hx (o_and y c) (z_and_n hy c1).2 l1
            refine ⟨l2, ?_⟩
            show (a.2.1 ++ 1205 :: b.2.1).foldl (e_stp fc) (nI (2 * x + y), l, 0) = _
            rw [List.foldl_append, hl1, List.foldl_cons, e_and fc x y c (by omega) hy c1]
            show b.2.1.foldl (e_stp fc) (nI (2 * x + o_and y c), l1, 0) = _
            rw [hl2, o_and_a]
      · cases h
        exact ⟨Nat.le_refl _, hp, Nat.zero_le _, fun fc _ => ⟨1, by omega, rfl, fun x _ y hy l => ⟨l, by
          show (nI (2 * x + y), l, (0 : Int32)) = _
          have : o_and y 1 = y := by unfold o_and; split <;> omega
          rw [this]⟩⟩⟩
    · intro hp h
      unfold P_e at h
      split at h
      · rename_i hW
        obtain ⟨a, ha, h⟩ := p_bd_ok h
        obtain ⟨b, hb, h⟩ := p_bd_ok h
        cases h
        obtain ⟨a1, a2, a3, a4, a5⟩ := (ih dp _ a hd).2.1 ha
        obtain ⟨b1, b2, b3, b5⟩ := (ih dp _ b hd).2.2.2.2 a2 hb
        have hn := (t_isW_nx (w := t_w 66) (by decide) hW).1
        have hl : (t_w 66).length = 2 := by decide
        refine ⟨by show p ≤ b.1; omega, b2, ?_, ?_⟩
        · show (a.2.1 ++ 1206 :: b.2.1).length ≤ b.1 - p
          rw [List.length_append, List.length_cons]; omega
        · intro fc hf
          obtain ⟨c, c1, c2, c3⟩ := a5 fc hf
          obtain ⟨k, k1, k2, k3⟩ := b5 fc hf
          refine ⟨o_or c k, (z_or_n c1 k1).2, ?_, fun x hx y hy l => ?_⟩
          · show z_or (a.2.2 fc) (b.2.2 fc) = _
            rw [c2, k2]; exact (z_or_n c1 k1).1
          · have hx2 := pw (2 * dp) (by omega)
            obtain ⟨l1, hl1⟩ := c3 (2 * x + y) (by rw [Nat.pow_succ]; omega) l
            obtain ⟨l2, hl2⟩ := k3 x hx (o_or y c) (z_or_n hy c1).2 l1
            refine ⟨l2, ?_⟩
            show (a.2.1 ++ 1206 :: b.2.1).foldl (e_stp fc) (nI (2 * x + y), l, 0) = _
            rw [List.foldl_append, hl1, List.foldl_cons, e_or fc x y c (by omega) hy c1]
            show b.2.1.foldl (e_stp fc) (nI (2 * x + o_or y c), l1, 0) = _
            rw [hl2, o_or_a]
      · cases h
        exact ⟨Nat.le_refl _, hp, Nat.zero_le _, fun fc _ => ⟨0, by omega, rfl, fun x _ y hy l => ⟨l, by
          show (nI (2 * x + y), l, (0 : Int32)) = _
          have : o_or y 0 = y := by unfold o_or; split <;> omega
          rw [this]⟩⟩⟩
theorem P_sumT_f {B : Nat → Nat} {n : Nat} : ∀ {f q : Nat}, t_at B n q → n - q < f → P_sumT B n f q ≠ none
  | 0, _, _, h => by omega
  | f + 1, q, hq, h => by
    intro e
    unfold P_sumT at e
    split at e
    · rename_i hS
      have h1 := t_isS_nx hS
      rcases p_bd_none e with e | ⟨a, ha, e⟩
      · unfold P_part at e
        split at e
        · split at e <;> cases e
        · split at e <;> cases e
      · have wa := P_part_w ha
        have h2 : t_nx B n q < a.1 := wa.1
        rcases p_bd_none e with e | ⟨b, hb, e⟩
        · exact P_sumT_f wa.2.1 (by omega) e
        · cases e
    · cases e
theorem P_sum_f {B : Nat → Nat} {n f p : Nat} (h : n - p ≤ f) (hf : 0 < f) : P_sum B n f p ≠ none := by
  intro e
  rcases p_bd_none e with e | ⟨a, ha, e⟩
  · unfold P_part at e
    split at e
    · split at e <;> cases e
    · split at e <;> cases e
  · have wa := P_part_w ha
    have h1 := wa.1
    have h2 := wa.2.1.1
    rcases p_bd_none e with e | ⟨b, hb, e⟩
    · exact P_sumT_f wa.2.1 (by omega) e
    · cases e
theorem P_plain_f {B : Nat → Nat} {n f p : Nat} (h : n - p ≤ f) (hf : 0 < f) : P_plain B n f p ≠ none := by
  intro e
  unfold P_plain at e
  split at e
  · cases e
  · split at e
    · cases e
    · split at e
      · cases e
      · split at e
        · cases e
        · rcases p_bd_none e with e | ⟨a, ha, e⟩
          · exact P_sum_f h hf e
          · have wa := (P_sum_w ha).1
            split at e
            · rename_i hS
              have := t_isS_nx hS
              rcases p_bd_none e with e | ⟨b, hb, e⟩
              · exact P_sum_f (by omega) hf e
              · cases e
            · split at e
              · rename_i hS
                have := t_isS_nx hS
                rcases p_bd_none e with e | ⟨b, hb, e⟩
                · exact P_sum_f (by omega) hf e
                · cases e
              · cases e
theorem P_e_f (B : Nat → Nat) (n : Nat) : ∀ (f dp p : Nat), dp ≤ 6 → (4 * (n - p) + 2 ≤ f → P_e B n f 0 dp p ≠ none) ∧ (4 * (n - p) + 3 ≤ f → P_e B n f 1 dp p ≠ none) ∧ (4 * (n - p) + 4 ≤ f → P_e B n f 2 dp p ≠ none) ∧ (t_at B n p → 4 * (n - p) + 2 ≤ f → P_e B n f 3 dp p ≠ none) ∧ (t_at B n p → 4 * (n - p) + 2 ≤ f → P_e B n f 4 dp p ≠ none) := by
  intro f
  induction f with
  | zero => intro dp p _; exact ⟨fun h => by omega, fun h => by omega, fun h => by omega, fun _ h => by omega, fun _ h => by omega⟩
  | succ f ih =>
    intro dp p hd
    refine ⟨?_, ?_, ?_, ?_, ?_⟩
    · intro h e
      unfold P_e at e
      split at e
      · rename_i hW
        have h1 := (t_isW_nx (w := t_w 64) (by decide) hW).1
        have h2 := (t_isW_lt (w := t_w 64) (by decide) hW).1
        have hl : (t_w 64).length = 3 := by decide
        split at e
        · cases e
        · rcases p_bd_none e with e | ⟨a, ha, e⟩
          · exact (ih (dp + 1) _ (by omega)).1 (by omega) e
          · cases e
      · split at e
        · rename_i hS
          have h1 := t_isS_nx hS
          split at e
          · cases e
          · rcases p_bd_none e with e | ⟨a, ha, e⟩
            · exact (ih (dp + 1) _ (by omega)).2.2.1 (by omega) e
            · split at e <;> cases e
        · exact P_plain_f (by omega) (by omega) e
    · intro h e
      rcases p_bd_none e with e | ⟨a, ha, e⟩
      · exact (ih dp p hd).1 (by omega) e
      · have wa := (P_e_w B n f dp p a hd).1 ha
        have h1 := wa.1
        rcases p_bd_none e with e | ⟨b, hb, e⟩
        · exact (ih dp a.1 hd).2.2.2.1 wa.2.1 (by omega) e
        · cases e
    · intro h e
      rcases p_bd_none e with e | ⟨a, ha, e⟩
      · exact (ih dp p hd).2.1 (by omega) e
      · have wa := (P_e_w B n f dp p a hd).2.1 ha
        have h1 := wa.1
        rcases p_bd_none e with e | ⟨b, hb, e⟩
        · exact (ih dp a.1 hd).2.2.2.2 wa.2.1 (by omega) e
        · cases e
    · intro hp h e
      unfold P_e at e
      split at e
      · rename_i hW
        have h1 := (t_isW_nx (w := t_w 65) (by decide) hW).1
        have h2 := (t_isW_lt (w := t_w 65) (by decide) hW).1
        have hl : (t_w 65).length = 3 := by decide
        rcases p_bd_none e with e | ⟨a, ha, e⟩
        · exact (ih dp _ hd).1 (by omega) e
        · have wa := (P_e_w B n f dp _ a hd).1 ha
          have h3 := wa.1
          rcases p_bd_none e with e | ⟨b, hb, e⟩
          · exact (ih dp a.1 hd).2.2.2.1 wa.2.1 (by omega) e
          · cases e
      · cases e
    · intro hp h e
      unfold P_e at e
      split at e
      · rename_i hW
        have h1 := (t_isW_nx (w := t_w 66) (by decide) hW).1
        have h2 := (t_isW_lt (w := t_w 66) (by decide) hW).1
        have hl : (t_w 66).length = 2 := by decide
        rcases p_bd_none e with e | ⟨a, ha, e⟩
        · exact (ih dp _ hd).2.1 (by omega) e
        · have wa := (P_e_w B n f dp _ a hd).2.1 ha
          have h3 := wa.1
          rcases p_bd_none e with e | ⟨b, hb, e⟩
          · exact (ih dp a.1 hd).2.2.2.2 wa.2.1 (by omega) e
          · cases e
      · cases e
