/-! ===== CELLS ARE NEVER FEWER ===== -/
def q_le (h h' : Hp) : Prop := h.2.2.2.1 ≤ h'.2.2.2.1 ∧ h.2.2.2.2 ≤ h'.2.2.2.2
theorem q_le_rf (h : Hp) : q_le h h := ⟨Nat.le_refl _, Nat.le_refl _⟩
theorem q_le_tr {a b c : Hp} (h1 : q_le a b) (h2 : q_le b c) : q_le a c := ⟨Nat.le_trans h1.1 h2.1, Nat.le_trans h1.2 h2.2⟩
theorem q_le_mk {h h' : Hp} {c : Zc} (h1 : q_le (q_mk h c) h') : q_le h h' := ⟨Nat.le_trans (Nat.le_succ _) h1.1, Nat.le_trans (Nat.le_add_right _ _) h1.2⟩
theorem q_le_th (h : Hp) : q_le h (q_th h) := ⟨Nat.le_succ _, Nat.le_add_right _ _⟩
set_option maxHeartbeats 4000000 in
theorem q_st_mono {X : Sx} {sb : List (List Int32)} {cd : List En} {call : Nat → List Value → Hp → Rs} {k : Nat → Lc → List Value → Hp → Rs} (hcall : ∀ mi args h o h', call mi args h = some (o, h') → q_le h h') (hk : ∀ i ls st h r, k i ls st h = some r → q_le h r.2)
    {i : Nat} {ls : Lc} {st : List Value} {h : Hp} {r : Ou × Hp} (hrun : q_st X sb cd call k i ls st h = some r) : q_le h r.2 := by
  unfold q_st at hrun
  cases hcd : cd[i]? with
  | none => rw [hcd] at hrun; cases hrun
  | some e =>
    rw [hcd] at hrun
    dsimp only at hrun
    simp only [Bool.cond_eq_ite] at hrun
    repeat' (split at hrun)
    all_goals first
      | (cases hrun; done)
      | exact hk _ _ _ _ _ hrun
      | (have h9 := hk _ _ _ _ _ hrun; exact h9)
      | exact q_le_mk (hk _ _ _ _ _ hrun)
      | (cases hrun; exact q_le_rf _)
      | (cases hrun; exact q_le_th _)
      | exact q_le_tr (hcall _ _ _ _ _ (by assumption)) (hk _ _ _ _ _ hrun)
      | (cases hrun; exact hcall _ _ _ _ _ (by assumption))
theorem q_ex_mono {X : Sx} {sb : List (List Int32)} {cd : List En} {call : Nat → List Value → Hp → Rs} (hcall : ∀ mi args h o h', call mi args h = some (o, h') → q_le h h') : ∀ (n i : Nat) (ls : Lc) (st : List Value) (h : Hp) (r : Ou × Hp), q_ex X sb cd call n i ls st h = some r → q_le h r.2 := by
  intro n
  induction n with
  | zero => intro i ls st h r hr; cases hr
  | succ n ih => intro i ls st h r hr; exact q_st_mono hcall ih hr
theorem q_call_mono {X : Sx} {sb : List (List Int32)} {pg : List (Nat × List En)} : ∀ (d mi : Nat) (args : List Value) (h : Hp) (o : Ou) (h' : Hp), q_call X sb pg d mi args h = some (o, h') → q_le h h' := by
  intro d
  induction d with
  | zero => intro mi args h o h' hr; cases hr
  | succ d ih =>
    intro mi args h o h' hr
    unfold q_call at hr
    split at hr
    · cases hr
    · obtain ⟨n, hn⟩ := q_lim_ex hr
      exact q_ex_mono ih n _ _ _ _ _ hn
