/-! ===== THE MACHINE: nothing beyond a cell's length ===== -/
def l_P (h : Hp) : Prop := ∀ a k, q_len h.1 a ≤ k → h.2.1 a k = 0
def l_R (r : Rs) : Prop := ∀ o h', r = some (o, h') → l_P h'
theorem lp_ui {h : Hp} {a k : Nat} {v : Int32} (hP : l_P h) (hk : k < q_len h.1 a) : l_P (q_ui h a k v) := by
  intro b j hj
  show va_up h.2.1 a (va_up (h.2.1 a) k v) b j = 0
  rw [p_up]
  have hj : q_len h.1 b ≤ j := hj
  by_cases e : b = a ∧ j = k
  · obtain ⟨rfl, rfl⟩ := e
    omega
  · rw [if_neg e]; exact hP b j hj
theorem lp_cp {h : Hp} {a sp b dp n : Nat} (hP : l_P h) (hk : dp + n ≤ q_len h.1 b) : l_P (q_cp h a sp b dp n) := by
  intro c j hj
  show va_up h.2.1 b (va_cpy (h.2.1 a) (h.2.1 b) sp dp n) c j = 0
  have hj : q_len h.1 c ≤ j := hj
  unfold va_up
  by_cases e : c = b
  · subst e
    rw [if_pos rfl]
    unfold va_cpy
    rw [if_neg (by omega)]
    exact hP c j hj
  · rw [if_neg e]; exact hP c j hj
theorem lp_mk {h : Hp} {c : Zc} (hP : l_P h) : l_P (q_mk h c) := by
  intro a k hk
  show va_up h.2.1 h.1.length (fun _ => 0) a k = 0
  have hk : q_len (h.1 ++ [c]) a ≤ k := hk
  unfold va_up
  by_cases e : a = h.1.length
  · rw [if_pos e]
  · rw [if_neg e]
    refine hP a k ?_
    unfold q_len at hk ⊢
    rcases Nat.lt_or_ge a h.1.length with h1 | h1
    · rw [List.getElem?_append_left h1] at hk; exact hk
    · rw [List.getElem?_eq_none_iff.mpr h1]; exact Nat.zero_le _
theorem lp_uz {h : Hp} {a k : Nat} {v : Option Nat} (hP : l_P h) : l_P (q_uz h a k v) := by
  have key : ∀ b, q_len (q_zs h.1 a k v) b = q_len h.1 b := by
    intro b
    unfold q_zs
    cases hc : h.1[a]? with
    | none => rfl
    | some c =>
      unfold q_len
      by_cases e : a = b
      · subst e
        rw [List.getElem?_set_self (List.getElem?_eq_some_iff.mp hc).1, hc]
      · rw [List.getElem?_set_ne e]
  intro b j hj
  have hj : q_len (q_zs h.1 a k v) b ≤ j := hj
  rw [key b] at hj
  exact hP b j hj
theorem lp_17 {h : Hp} {a k : Nat} {x : Int32} {c : Bool} (hP : l_P h) (hb : (c && Nat.blt k (q_len h.1 a)) = true) : l_P (q_ui h a k x) := by
  simp only [Bool.and_eq_true] at hb
  exact lp_ui hP (by simpa using hb.2)
theorem lp_21 {h : Hp} {a : Nat} {j x : Int32} (hP : l_P h) (hb : ¬ q_out j (q_len h.1 a)) : l_P (q_ui h a j.toNatClampNeg x) := by
  refine lp_ui hP ?_
  have : ¬ (q_len h.1 a ≤ j.toNatClampNeg) := fun c => hb (.inr c)
  omega
theorem lp_41 {h : Hp} {a b sp dp n : Nat} {c : Bool} (hP : l_P h) (hb : (c && Nat.ble (dp + n) (q_len h.1 b)) = true) : l_P (q_cp h a sp b dp n) := by
  simp only [Bool.and_eq_true] at hb
  exact lp_cp hP (by simpa using hb.2)
theorem lp_st {X : Sx} {sb : List (List Int32)} {cd : List En} {call : Nat → List Value → Hp → Rs} {k : Nat → Lc → List Value → Hp → Rs} (hcall : ∀ m args h, l_P h → l_R (call m args h)) (hk : ∀ i ls st h, l_P h → l_R (k i ls st h)) (i : Nat) (ls : Lc) (st : List Value) (h : Hp) (hP : l_P h) : l_R (q_st X sb cd call k i ls st h) := by
  intro o h' e
  unfold q_st at e
  cases hi : cd[i]? with
  | none => rw [hi] at e; cases e
  | some en =>
    rw [hi] at e
    dsimp only at e
    simp only [cond_eq_if] at e
    repeat' split at e
    all_goals first
      | (cases e; done)
      | exact hk _ _ _ _ hP _ _ e
      | (cases e; exact hP)
      | exact hk _ _ _ _ (hcall _ _ _ hP _ _ (by assumption)) _ _ e
      | (cases e; exact hcall _ _ _ hP _ _ (by assumption))
      | exact hk _ _ _ _ (lp_17 hP (by assumption)) _ _ e
      | exact hk _ _ _ _ (lp_uz hP) _ _ e
      | exact hk _ _ _ _ (lp_mk hP) _ _ e
      | exact hk _ _ _ _ (lp_21 hP (by assumption)) _ _ e
      | exact hk _ _ _ _ (lp_41 hP (by assumption)) _ _ e
      | exact hk _ _ _ _ (show l_P (q_ul _ _ _ _) from hP) _ _ e
theorem lp_ex {X : Sx} {sb : List (List Int32)} {cd : List En} {call : Nat → List Value → Hp → Rs} (hcall : ∀ m args h, l_P h → l_R (call m args h)) : ∀ n i ls st h, l_P h → l_R (q_ex X sb cd call n i ls st h) := by
  intro n
  induction n with
  | zero => intro i ls st h _ o h' e; cases e
  | succ n ih => intro i ls st h hP; exact lp_st hcall ih i ls st h hP
theorem lp_cc (X : Sx) (sb : List (List Int32)) (pg : List (Nat × List En)) (f : Nat) : ∀ d m args h, l_P h → l_R (q_cc X sb pg f d m args h) := by
  intro d
  induction d with
  | zero => intro m args h _ o h' e; cases e
  | succ d ih =>
    intro m args h hP o h' e
    have e' : (match pg[m]? with | none => none | some m => q_ex X sb m.2 (q_cc X sb pg f d) f 0 (q_en m.1 args) [] h) = some (o, h') := e
    cases hm : pg[m]? with
    | none => rw [hm] at e'; cases e'
    | some mm =>
      rw [hm] at e'
      exact lp_ex ih f _ _ _ _ hP _ _ e'
/-! the two constructors -/
theorem q_i1_e : q_i1 = some (.inl none, q_h1) ∧ q_h1.1 = q_Z1 ∧ q_h1.2.2.2.1 = 139 := by
  have h := q_i1_a
  unfold q_h1
  cases e : q_i1 with
  | none => rw [e] at h; cases h
  | some r =>
    obtain ⟨o, g⟩ := r
    rw [e] at h
    rcases o with (_ | v) | E
    · simp only [Bool.and_eq_true, beq_iff_eq] at h
      exact ⟨rfl, h.1, h.2⟩
    · cases h
    · cases h
theorem q_i2_e : q_i2 = some (.inl none, q_h2) ∧ q_h2.1 ++ [(102, 1, [])] = q_Z0 ∧ q_h2.2.2.2.1 = 150 ∧ q_h2.2.2.2.2 ≤ 100000 := by
  have h := q_i2_a
  unfold q_h2
  cases e : q_i2 with
  | none => rw [e] at h; cases h
  | some r =>
    obtain ⟨o, g⟩ := r
    rw [e] at h
    rcases o with (_ | v) | E
    · simp only [Bool.and_eq_true, beq_iff_eq] at h
      exact ⟨rfl, h.1.1, h.1.2, by simpa using h.2⟩
    · cases h
    · cases h
theorem lp_h2 : l_P q_h2 := by
  have h0 : l_P q_h0 := fun a k _ => rfl
  have h1 : l_P q_h1 := lp_cc _ _ _ _ _ _ _ _ (lp_mk h0) _ _ q_i1_e.1
  exact lp_cc _ _ _ _ _ _ _ _ (lp_mk h1) _ _ q_i2_e.1
def q_cells : List (Nat × Nat × Int32) := [(64, 1, 0), (64, 2, 0), (140, 3, 0), (140, 4, 0), (140, 0, 0), (140, 5, 1), (140, 6, 0), (140, 7, 0), (140, 10, 0), (140, 1, -1), (140, 8, 0), (140, 9, 0), (140, 11, 1), (3, 0, 0), (3, 5, 0), (3, 9, 1), (3, 10, 0), (3, 11, 0), (3, 12, 0), (42, 0, -1), (27, 5, 0), (27, 7, 0), (27, 6, 1), (27, 9, 0), (27, 4, 0), (27, 8, 0), (139, 6, 0), (1, 1, 0), (139, 8, 0), (0, 18, 0), (139, 3, 0), (0, 19, -1), (139, 13, -1), (139, 17, 0)]
theorem q_cells_a : (q_cells.all (fun c => q_h2.2.1 c.1 c.2.1 == c.2.2) && (List.range 12).all (fun p => q_h2.2.1 140 (142 + p) == 0 && q_h2.2.1 7 p == 0)) = true := by decide +kernel
