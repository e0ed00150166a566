/-! ===== what is read: positions, steps, values ===== -/
def e_stp (fc : Fc) (s : Int32 × Int32 × Int32) (st : Int32) : Int32 × Int32 × Int32 :=
  if st < 1100 then (s.1, s.2.1, s.2.2 + if st < 1000 then st else fc.1 (st - 1000).toNatClampNeg)
  else if st = 1201 then (s.1, s.2.2, 0)
  else if st = 1202 then ((s.1 <<< ((1 : Int32) &&& 31)) ||| (if s.2.1 < s.2.2 then 1 else 0), s.2.1, 0)
  else if st = 1203 then ((s.1 <<< ((1 : Int32) &&& 31)) ||| (if s.2.2 < s.2.1 then 1 else 0), s.2.1, 0)
  else if 1200 < st then
    if st = 1204 then (s.1 ^^^ 1, s.2.1, s.2.2)
    else if st = 1206 then ((s.1.toUInt32 >>> ((1 : Int32).toUInt32 &&& Int32.toUInt32 31)).toInt32 ||| (s.1 &&& 1), s.2.1, s.2.2)
    else ((s.1.toUInt32 >>> ((1 : Int32).toUInt32 &&& Int32.toUInt32 31)).toInt32 &&& ((-2 : Int32) ||| (s.1 &&& 1)), s.2.1, s.2.2)
  else if st = 1200 then ((s.1 <<< ((1 : Int32) &&& 31)) ||| (if fc.2.2 = 0 then 0 else 1), s.2.1, s.2.2)
  else ((s.1 <<< ((1 : Int32) &&& 31)) ||| (if fc.2.1 = st - 1100 then 1 else 0), s.2.1, s.2.2)
theorem e_num (fc : Fc) (a l s : Int32) (v : Nat) (h : v < 1000) : e_stp fc (a, l, s) (nI v) = (a, l, s + nI v) := by
  unfold e_stp
  rw [if_pos (show nI v < (1100 : Int32) from nI_lt (b := 1100) (by omega) (by omega)), if_pos (show nI v < (1000 : Int32) from nI_lt (b := 1000) h (by omega))]
theorem e_fact (fc : Fc) (a l s : Int32) (w : Nat) (h : w < 7) : e_stp fc (a, l, s) (nI (1000 + w)) = (a, l, s + fc.1 w) := by
  unfold e_stp
  rw [if_pos (show nI (1000 + w) < (1100 : Int32) from nI_lt (b := 1100) (by omega) (by omega)), if_neg (show ¬ nI (1000 + w) < (1000 : Int32) from nI_nlt (b := 1000) (by omega) (by omega))]
  have e : nI (1000 + w) - 1000 = nI w := by
    have := pk_sub (a := 1000 + w) (b := 1000) (by omega)
    rw [Nat.add_sub_cancel_left] at this
    exact this
  rw [e, nI_clamp (by omega)]
theorem e_left (fc : Fc) (a l s : Int32) : e_stp fc (a, l, s) 1201 = (a, s, 0) := rfl
theorem e_below (fc : Fc) (x : Nat) (hx : x < 1048576) (l s : Int32) : e_stp fc (nI x, l, s) 1202 = (nI (2 * x + (z_b (l < s)).toNatClampNeg), l, 0) := by
  show ((nI x <<< ((1 : Int32) &&& 31)) ||| (if l < s then 1 else 0), l, 0) = _
  unfold z_b
  split
  · exact congrArg (fun y => (y, l, (0 : Int32))) (z_push x 1 hx (by omega))
  · exact congrArg (fun y => (y, l, (0 : Int32))) (z_push x 0 hx (by omega))
theorem e_above (fc : Fc) (x : Nat) (hx : x < 1048576) (l s : Int32) : e_stp fc (nI x, l, s) 1203 = (nI (2 * x + (z_b (s < l)).toNatClampNeg), l, 0) := by
  show ((nI x <<< ((1 : Int32) &&& 31)) ||| (if s < l then 1 else 0), l, 0) = _
  unfold z_b
  split
  · exact congrArg (fun y => (y, l, (0 : Int32))) (z_push x 1 hx (by omega))
  · exact congrArg (fun y => (y, l, (0 : Int32))) (z_push x 0 hx (by omega))
theorem e_open (fc : Fc) (hf : fc.2.2 = 0 ∨ fc.2.2 = 1) (x : Nat) (hx : x < 1048576) (l s : Int32) : e_stp fc (nI x, l, s) 1200 = (nI (2 * x + fc.2.2.toNatClampNeg), l, s) := by
  show ((nI x <<< ((1 : Int32) &&& 31)) ||| (if fc.2.2 = 0 then 0 else 1), l, s) = _
  rcases hf with h | h
  · rw [h, if_pos rfl]; exact congrArg (fun y => (y, l, s)) (z_push x 0 hx (by omega))
  · rw [h, if_neg (by decide)]; exact congrArg (fun y => (y, l, s)) (z_push x 1 hx (by omega))
theorem e_liq (fc : Fc) (k : Nat) (hk : k < 3) (x : Nat) (hx : x < 1048576) (l s : Int32) : e_stp fc (nI x, l, s) (nI (1100 + k)) = (nI (2 * x + (z_b (fc.2.1 = nI k)).toNatClampNeg), l, s) := by
  have h : e_stp fc (nI x, l, s) (nI (1100 + k)) = ((nI x <<< ((1 : Int32) &&& 31)) ||| (if fc.2.1 = nI k then 1 else 0), l, s) := by
    rcases (by omega : k = 0 ∨ k = 1 ∨ k = 2) with rfl | rfl | rfl <;> rfl
  rw [h]
  unfold z_b
  split
  · exact congrArg (fun y => (y, l, s)) (z_push x 1 hx (by omega))
  · exact congrArg (fun y => (y, l, s)) (z_push x 0 hx (by omega))
theorem e_not (fc : Fc) (x c : Nat) (hc : c < 2) (l s : Int32) : e_stp fc (nI (2 * x + c), l, s) 1204 = (nI (2 * x + (1 - c)), l, s) := congrArg (fun y => (y, l, s)) (z_not_b x c hc)
theorem e_or (fc : Fc) (x a b : Nat) (hx : x < 1048576) (ha : a < 2) (hb : b < 2) (l s : Int32) : e_stp fc (nI (2 * (2 * x + a) + b), l, s) 1206 = (nI (2 * x + (if a = 0 then b else 1)), l, s) := congrArg (fun y => (y, l, s)) (z_or_b x a b hx ha hb)
theorem e_and (fc : Fc) (x a b : Nat) (hx : x < 1048576) (ha : a < 2) (hb : b < 2) (l s : Int32) : e_stp fc (nI (2 * (2 * x + a) + b), l, s) 1205 = (nI (2 * x + (if a = 0 then 0 else b)), l, s) := congrArg (fun y => (y, l, s)) (z_and_b x a b hx ha hb)
theorem t_isW_lt {w : List Int32} (hw : 0 < w.length) {B : Nat → Nat} {n p : Nat} (h : t_isW w B n p = true) : p < n ∧ t_let (B p) = true ∧ t_end B n p = p + w.length := by
  rw [t_isW_p] at h
  obtain ⟨h1, -⟩ := h
  obtain ⟨h2, h3, -⟩ := t_scan_in (P := t_let) (B := B) (n := n) (p := p) (q := p) (Nat.le_refl _) (by omega)
  refine ⟨h2, h3, ?_⟩
  unfold t_end
  rw [if_neg (by omega), if_pos h3, h1]
theorem t_isW_nx {w : List Int32} (hw : 0 < w.length) {B : Nat → Nat} {n p : Nat} (h : t_isW w B n p = true) : p + w.length ≤ t_nx B n p ∧ t_at B n (t_nx B n p) := by
  obtain ⟨h1, -, h3⟩ := t_isW_lt hw h
  refine ⟨?_, t_nx_at (Nat.le_of_lt h1)⟩
  unfold t_nx
  rw [h3]
  exact t_scan_ge _ _ _ _
theorem t_isS_nx {c : Nat} {B : Nat → Nat} {n p : Nat} (h : t_isS c B n p = true) : p < n ∧ p + 1 ≤ t_nx B n p ∧ t_at B n (t_nx B n p) := by
  rw [t_isS_p] at h
  exact ⟨h.1, t_nx_gt h.1, t_nx_at (Nat.le_of_lt h.1)⟩
/-- a SUM that was read -/
def w_sum (B : Nat → Nat) (n p : Nat) (v : Pv) : Prop := p < v.1 ∧ t_at B n v.1 ∧ v.2.1.length ≤ v.1 - p ∧ (∀ s, s ∈ v.2.1 → z_le s 1006) ∧ ∀ fc a l s, v.2.1.foldl (e_stp fc) (a, l, s) = (a, l, s + v.2.2 fc)
/-- the same behind a PART -/
def w_sumT (B : Nat → Nat) (n q : Nat) (v : Pv) : Prop := q ≤ v.1 ∧ t_at B n v.1 ∧ v.2.1.length ≤ v.1 - q ∧ (∀ s, s ∈ v.2.1 → z_le s 1006) ∧ ∀ fc a l s, v.2.1.foldl (e_stp fc) (a, l, s) = (a, l, s + v.2.2 fc)
theorem p_pw_le (B : Nat → Nat) (n p : Nat) : p_pw B n p ≤ 7 := by
  unfold p_pw
  repeat' split
  all_goals omega
theorem p_pw_lt {B : Nat → Nat} {n p : Nat} (h : p_pw B n p ≠ 7) : p < n := by
  by_cases hp : p < n
  · exact hp
  · refine absurd ?_ h
    have hW : ∀ w : List Int32, 0 < w.length → ¬ t_isW w B n p = true := fun w hw h => hp (t_isW_lt hw h).1
    unfold p_pw
    rw [if_neg (hW _ (by decide)), if_neg (hW _ (by decide)), if_neg (hW _ (by decide)), if_neg (hW _ (by decide)), if_neg (hW _ (by decide)), if_neg (hW _ (by decide)), if_neg (hW _ (by decide))]
theorem t_num_lt (B : Nat → Nat) (n p : Nat) : ∀ m, p + m ≤ t_scan t_dig B n p → t_num B p m < 10 ^ m
  | 0, _ => by show 0 < 1; omega
  | m + 1, h => by
    have ih := t_num_lt B n p m (by omega)
    have hd := (t_scan_in (P := t_dig) (B := B) (n := n) (p := p) (q := p + m) (by omega) (by omega)).2.1
    rw [t_dig_p] at hd
    show 10 * t_num B p m + B (p + m) - 48 < 10 ^ (m + 1)
    rw [Nat.pow_succ]
    omega
theorem t_isN_lt {lo hi : Int32} {dg : Nat} {B : Nat → Nat} {n p : Nat} (h : t_isN lo hi dg B n p = true) : p < n ∧ t_dig (B p) = true ∧ t_end B n p = p + t_nf B n p ∧ t_num B p (t_nf B n p) < 10 ^ dg ∧ ¬ nI (t_num B p (t_nf B n p)) < lo ∧ ¬ hi < nI (t_num B p (t_nf B n p)) := by
  rw [t_isN_p] at h
  obtain ⟨h1, h2, h3, h4⟩ := h
  have hg := t_scan_ge t_dig B n p
  have e : p + t_nf B n p = t_scan t_dig B n p := by unfold t_nf; omega
  obtain ⟨h5, h6, -⟩ := t_scan_in (P := t_dig) (B := B) (n := n) (p := p) (q := p) (Nat.le_refl _) (by omega)
  refine ⟨h5, h6, ?_, ?_, h3, h4⟩
  · unfold t_end
    have : ¬ t_let (B p) = true := by
      rw [t_dig_p] at h6
      rw [t_let_p]; omega
    rw [if_neg (by omega), if_neg this, if_pos h6, e]
  · exact Nat.lt_of_lt_of_le (t_num_lt B n p _ (by omega)) (Nat.pow_le_pow_right (by decide) h2)
theorem t_isN_nx {lo hi : Int32} {dg : Nat} {B : Nat → Nat} {n p : Nat} (h : t_isN lo hi dg B n p = true) : p + 1 ≤ t_nx B n p ∧ t_at B n (t_nx B n p) := ⟨t_nx_gt (t_isN_lt h).1, t_nx_at (Nat.le_of_lt (t_isN_lt h).1)⟩
theorem P_part_w {B : Nat → Nat} {n p : Nat} {v : Pv} (h : P_part B n p = some (.ok v)) : w_sum B n p v := by
  unfold P_part at h
  split at h
  · rename_i hd
    split at h
    · rename_i hN
      cases h
      have hl := (t_isN_lt hN).2.2.2.1
      refine ⟨t_nx_gt hd.1, t_nx_at (Nat.le_of_lt hd.1), ?_, ?_, ?_⟩
      · have := t_nx_gt (B := B) hd.1
        show 1 ≤ _; omega
      · intro s hs
        cases List.mem_singleton.mp hs
        exact z_le_nI (by omega)
      · intro fc a l s
        exact e_num fc a l s _ (by omega)
    · cases h
  · split at h
    · cases h
    · rename_i hw
      cases h
      have hp := p_pw_lt hw
      refine ⟨t_nx_gt hp, t_nx_at (Nat.le_of_lt hp), ?_, ?_, ?_⟩
      · have := t_nx_gt (B := B) hp
        show 1 ≤ _; omega
      · intro s hs
        cases List.mem_singleton.mp hs
        have := p_pw_le B n p
        exact z_le_nI (by omega)
      · intro fc a l s
        have := p_pw_le B n p
        exact e_fact fc a l s _ (by omega)
theorem w_app {B : Nat → Nat} {n p : Nat} {a b : Pv} (ha : w_sum B n p a) (hb : w_sumT B n a.1 b) : w_sum B n p (b.1, a.2.1 ++ b.2.1, fun fc => a.2.2 fc + b.2.2 fc) := by
  obtain ⟨a1, a2, a3, a4, a5⟩ := ha
  obtain ⟨b1, b2, b3, b4, b5⟩ := hb
  refine ⟨Nat.lt_of_lt_of_le a1 b1, b2, ?_, ?_, ?_⟩
  · show (a.2.1 ++ b.2.1).length ≤ b.1 - p
    rw [List.length_append]; omega
  · intro s hs
    rcases List.mem_append.mp hs with h | h
    · exact a4 s h
    · exact b4 s h
  · intro fc x l s
    show (a.2.1 ++ b.2.1).foldl (e_stp fc) (x, l, s) = _
    rw [List.foldl_append, a5, b5, Int32.add_assoc]
theorem P_sumT_w {B : Nat → Nat} {n : Nat} : ∀ {f q : Nat} {v : Pv}, t_at B n q → P_sumT B n f q = some (.ok v) → w_sumT B n q v
  | 0, _, _, _, h => by cases h
  | f + 1, q, v, hq, h => by
    unfold P_sumT at h
    split at h
    · rename_i hS
      obtain ⟨a, ha, h⟩ := p_bd_ok h
      obtain ⟨b, hb, h⟩ := p_bd_ok h
      cases h
      have wa := P_part_w ha
      have wb := P_sumT_w wa.2.1 hb
      obtain ⟨c1, c2, c3, c4, c5⟩ := w_app wa wb
      have := t_isS_nx hS
      exact ⟨by show q ≤ b.1; have : t_nx B n q < b.1 := c1; omega, c2, by show (a.2.1 ++ b.2.1).length ≤ b.1 - q; have : (a.2.1 ++ b.2.1).length ≤ b.1 - t_nx B n q := c3; omega, c4, c5⟩
    · cases h
      exact ⟨Nat.le_refl _, hq, Nat.zero_le _, fun s hs => (List.not_mem_nil hs).elim, fun fc a l s => by simp⟩
theorem P_sum_w {B : Nat → Nat} {n f p : Nat} {v : Pv} (h : P_sum B n f p = some (.ok v)) : w_sum B n p v := by
  obtain ⟨a, ha, h⟩ := p_bd_ok h
  obtain ⟨b, hb, h⟩ := p_bd_ok h
  cases h
  have wa := P_part_w ha
  exact w_app wa (P_sumT_w wa.2.1 hb)
/-- a condition that was read, on a stack of less than 2^e -/
def w_b (B : Nat → Nat) (n e p : Nat) (v : Pv) : Prop := p < v.1 ∧ t_at B n v.1 ∧ 0 < v.2.1.length ∧ v.2.1.length ≤ v.1 - p + 1 ∧ ∀ fc : Fc, (fc.2.2 = 0 ∨ fc.2.2 = 1) → ∃ c, c < 2 ∧ v.2.2 fc = nI c ∧ ∀ x, x < 2 ^ e → ∀ l, ∃ l', v.2.1.foldl (e_stp fc) (nI x, l, 0) = (nI (2 * x + c), l', 0)
/-- what is behind one: 'o' the joining of two bits -/
def w_t (B : Nat → Nat) (n e q : Nat) (o : Nat → Nat → Nat) (v : Pv) : Prop := q ≤ v.1 ∧ t_at B n v.1 ∧ v.2.1.length ≤ v.1 - q ∧ ∀ fc : Fc, (fc.2.2 = 0 ∨ fc.2.2 = 1) → ∃ c, c < 2 ∧ v.2.2 fc = nI c ∧ ∀ x, x < 2 ^ e → ∀ a, a < 2 → ∀ l, ∃ l', v.2.1.foldl (e_stp fc) (nI (2 * x + a), l, 0) = (nI (2 * x + o a c), l', 0)
theorem z_b_c (c : Prop) [Decidable c] : (z_b c).toNatClampNeg < 2 ∧ z_b c = nI (z_b c).toNatClampNeg := by
  unfold z_b; split <;> decide
theorem w_leaf {B : Nat → Nat} {n e p : Nat} {s : Int32} {f : Fc → Int32} (hw : p < n) (he : e ≤ 20) (h : ∀ fc : Fc, (fc.2.2 = 0 ∨ fc.2.2 = 1) → ∃ c, c < 2 ∧ f fc = nI c ∧ ∀ x, x < 1048576 → ∀ l, e_stp fc (nI x, l, 0) s = (nI (2 * x + c), l, 0)) : w_b B n e p (t_nx B n p, [s], f) := by
  refine ⟨t_nx_gt hw, t_nx_at (Nat.le_of_lt hw), Nat.zero_lt_one, ?_, ?_⟩
  · show 1 ≤ _; omega
  · intro fc hf
    obtain ⟨c, h1, h2, h3⟩ := h fc hf
    exact ⟨c, h1, h2, fun x hx l => ⟨l, h3 x (Nat.lt_of_lt_of_le hx (Nat.pow_le_pow_right (by decide) he)) l⟩⟩
theorem P_plain_w {B : Nat → Nat} {n f p e : Nat} {v : Pv} (he : e ≤ 20) (h : P_plain B n f p = some (.ok v)) : w_b B n e p v := by
  unfold P_plain at h
  have cmp : ∀ (a b : Pv) (k : Int32) (g : Fc → Int32), (∀ fc, z_le (g fc) 1 ∧ ∀ x, x < 1048576 → e_stp fc (nI x, a.2.2 fc, b.2.2 fc) k = (nI (2 * x + (g fc).toNatClampNeg), a.2.2 fc, 0)) → w_sum B n p a → a.1 < t_nx B n a.1 → w_sum B n (t_nx B n a.1) b → w_b B n e p (b.1, a.2.1 ++ 1201 :: (b.2.1 ++ [k]), g) := by
    intro a b k g hk ha hn hb
    obtain ⟨a1, a2, a3, a4, a5⟩ := ha
    obtain ⟨b1, b2, b3, b4, b5⟩ := hb
    refine ⟨by show p < b.1; omega, b2, ?_, ?_, ?_⟩
    · show 0 < (a.2.1 ++ 1201 :: (b.2.1 ++ [k])).length
      rw [List.length_append, List.length_cons]; omega
    · show (a.2.1 ++ 1201 :: (b.2.1 ++ [k])).length ≤ b.1 - p + 1
      rw [List.length_append, List.length_cons, List.length_append, List.length_singleton]; omega
    · intro fc hf
      obtain ⟨⟨c, hc1, hc2⟩, hk2⟩ := hk fc
      refine ⟨c, by omega, hc2, fun x hx l => ⟨a.2.2 fc, ?_⟩⟩
      show (a.2.1 ++ 1201 :: (b.2.1 ++ [k])).foldl (e_stp fc) (nI x, l, 0) = _
      rw [List.foldl_append, a5, List.foldl_cons, e_left, List.foldl_append, b5, List.foldl_cons, List.foldl_nil, Int32.zero_add, Int32.zero_add, hk2 x (Nat.lt_of_lt_of_le hx (Nat.pow_le_pow_right (by decide) he)), hc2, nI_clamp (by omega)]
  split at h
  · rename_i hW
    cases h
    exact w_leaf (t_isW_lt (by decide) hW).1 he (fun fc _ => ⟨_, (z_b_c _).1, (z_b_c _).2, fun x hx l => e_liq fc 0 (by omega) x hx l 0⟩)
  · split at h
    · rename_i hW
      cases h
      exact w_leaf (t_isW_lt (by decide) hW).1 he (fun fc _ => ⟨_, (z_b_c _).1, (z_b_c _).2, fun x hx l => e_liq fc 1 (by omega) x hx l 0⟩)
    · split at h
      · rename_i hW
        cases h
        exact w_leaf (t_isW_lt (by decide) hW).1 he (fun fc _ => ⟨_, (z_b_c _).1, (z_b_c _).2, fun x hx l => e_liq fc 2 (by omega) x hx l 0⟩)
      · split at h
        · rename_i hW
          cases h
          refine w_leaf (t_isW_lt (by decide) hW).1 he (fun fc hf => ⟨fc.2.2.toNatClampNeg, ?_, ?_, fun x hx l => e_open fc hf x hx l 0⟩)
          · rcases hf with hf | hf <;> rw [hf] <;> decide
          · show fc.2.2 = _
            rcases hf with hf | hf <;> rw [hf] <;> rfl
        · obtain ⟨a, ha, h⟩ := p_bd_ok h
          have wa := P_sum_w ha
          split at h
          · rename_i hS
            obtain ⟨b, hb, h⟩ := p_bd_ok h
            cases h
            exact cmp a b 1202 _ (fun fc => ⟨⟨_, Nat.le_of_lt_succ (z_b_c _).1, (z_b_c _).2⟩, fun x hx => e_below fc x hx _ _⟩) wa (t_isS_nx hS).2.1 (P_sum_w hb)
          · split at h
            · rename_i hS
              obtain ⟨b, hb, h⟩ := p_bd_ok h
              cases h
              exact cmp a b 1203 _ (fun fc => ⟨⟨_, Nat.le_of_lt_succ (z_b_c _).1, (z_b_c _).2⟩, fun x hx => e_above fc x hx _ _⟩) wa (t_isS_nx hS).2.1 (P_sum_w hb)
            · cases h
